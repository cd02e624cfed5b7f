/-! CONSTRUCTORS: runs that make objects; the answer is none -/
def RC (d : Nat) (cd : List mBk) (is : List mRI) (L : mL) (st : List Value) (σ : mMH) (P : mMH → Prop) : Prop := ∃ τ : mMH, (∃ n, mExb (mCall d) none none τ (mWp (mCall d) cd none none τ n) is L st σ) ∧ mLe σ τ ∧ P τ
def CC (d j : Nat) (as : List Value) (σ : mMH) (P : mMH → Prop) : Prop := ∃ τ : mMH, mCall d j as σ none τ ∧ mLe σ τ ∧ P τ
/-- no reference leads to a number that isn't made yet -/
def rOK (σ : mMH) : Prop := ∀ o k x : Nat, σ.2.2.1 o k = some x → x < σ.2.1.length
theorem rOK.rfo {σ : mMH} (h : rOK σ) : mRfo σ := fun o k x hx => Or.inl (h o k x hx)
theorem rOK_new {σ : mMH} {kd len sz : Nat} (h : rOK σ) : rOK (mNew σ kd len sz) := by
  intro o k x hx
  have hl : (mNew σ kd len sz).2.1.length = σ.2.1.length + 1 := by simp [mNew]
  rw [hl]
  have hx : va_up σ.2.2.1 σ.2.1.length (fun _ => none) o k = some x := hx
  unfold va_up at hx
  split at hx
  · cases hx
  · have := h o k x hx; omega
theorem rOK_pr {σ : mMH} {o k q : Nat} (h : rOK σ) (hq : q < σ.2.1.length) : rOK (mPr σ o k (some q)) := by
  intro o' k' x hx
  show x < σ.2.1.length
  have hx : va_up σ.2.2.1 o (va_up (σ.2.2.1 o) k (some q)) o' k' = some x := hx
  unfold va_up at hx
  split at hx
  · rename_i e
    dsimp only at hx
    split at hx
    · cases hx; exact hq
    · exact h o k' x hx
  · exact h o' k' x hx
theorem rOK_pv {σ : mMH} {o k : Nat} {x : Int32} (h : rOK σ) : rOK (mPv σ o k x) := h
theorem len_new {σ : mMH} {kd len sz : Nat} : (mNew σ kd len sz).2.1.length = σ.2.1.length + 1 := by simp [mNew]
theorem k_new {σ : mMH} {kd len sz q : Nat} {x : Nat × Nat} (h : σ.2.1[q]? = some x) : (mNew σ kd len sz).2.1[q]? = some x := by
  show (σ.2.1 ++ [(kd, len)])[q]? = some x
  rw [List.getElem?_append_left (List.getElem?_eq_some_iff.mp h).1, h]
theorem k_newS {σ : mMH} {kd len sz : Nat} : (mNew σ kd len sz).2.1[σ.2.1.length]? = some (kd, len) := by
  show (σ.2.1 ++ [(kd, len)])[σ.2.1.length]? = _
  simp
theorem g_new {σ : mMH} {kd len sz o k : Nat} {x : Option Nat} (ho : o ≠ σ.2.1.length) (h : σ.2.2.1 o k = x) : (mNew σ kd len sz).2.2.1 o k = x := by
  show va_up σ.2.2.1 σ.2.1.length (fun _ => none) o k = x
  rw [mup_ne ho, h]
theorem g_prS {σ : mMH} {o k : Nat} {q : Option Nat} : (mPr σ o k q).2.2.1 o k = q := by
  show va_up σ.2.2.1 o (va_up (σ.2.2.1 o) k q) o k = q
  rw [mup_eq, mup_eq]
theorem g_prK {σ : mMH} {o k k' : Nat} {q x : Option Nat} (hk : k' ≠ k) (h : σ.2.2.1 o k' = x) : (mPr σ o k q).2.2.1 o k' = x := by
  show va_up σ.2.2.1 o (va_up (σ.2.2.1 o) k q) o k' = x
  rw [mup_eq, mup_ne hk, h]
theorem g_prO {σ : mMH} {o o' k k' : Nat} {q x : Option Nat} (ho : o' ≠ o) (h : σ.2.2.1 o' k' = x) : (mPr σ o k q).2.2.1 o' k' = x := by
  show va_up σ.2.2.1 o (va_up (σ.2.2.1 o) k q) o' k' = x
  rw [mup_ne ho, h]
theorem mOut_lt {a b : Nat} {L : mL} {st : List Value} (hL : ∀ x : Nat, some (Value.ref x) ∈ L → x < a) (hs : ∀ x : Nat, Value.ref x ∈ st → x < a) : mOut a b L st := ⟨fun x h => Or.inl (hL x h), fun x h => Or.inl (hs x h)⟩
def rfsL : mL → List Nat
  | [] => []
  | some (.ref x) :: r => x :: rfsL r
  | _ :: r => rfsL r
def rfsS : List Value → List Nat
  | [] => []
  | .ref x :: r => x :: rfsS r
  | _ :: r => rfsS r
theorem ltL {a : Nat} (l : List Nat) : ∀ {L : mL}, rfsL L = l → (∀ x ∈ l, x < a) → ∀ x : Nat, some (Value.ref x) ∈ L → x < a := by
  intro L e h x hx
  refine h x ?_
  rw [← e]
  clear e h
  induction L with
  | nil => cases hx
  | cons v r ih =>
    rcases List.mem_cons.mp hx with e | e
    · subst e; exact List.mem_cons_self
    · have h1 := ih e
      match v with
      | some (.ref y) => exact List.mem_cons_of_mem _ h1
      | none => exact h1
      | some (.int _) => exact h1
      | some (.long _) => exact h1
      | some (.float _) => exact h1
      | some (.double _) => exact h1
      | some .null => exact h1
      | some (.retAddr _) => exact h1
theorem ltS {a : Nat} (l : List Nat) : ∀ {L : List Value}, rfsS L = l → (∀ x ∈ l, x < a) → ∀ x : Nat, Value.ref x ∈ L → x < a := by
  intro L e h x hx
  refine h x ?_
  rw [← e]
  clear e h
  induction L with
  | nil => cases hx
  | cons v r ih =>
    rcases List.mem_cons.mp hx with e | e
    · subst e; exact List.mem_cons_self
    · have h1 := ih e
      match v with
      | .ref y => exact List.mem_cons_of_mem _ h1
      | .int _ => exact h1
      | .long _ => exact h1
      | .float _ => exact h1
      | .double _ => exact h1
      | .null => exact h1
      | .retAddr _ => exact h1
theorem mLe_new {σ τ : mMH} {kd len sz : Nat} (h : mLe (mNew σ kd len sz) τ) : mLe σ τ := by
  obtain ⟨h1, h2, h3⟩ := h
  rw [len_new] at h2
  have h1 : σ.1 + sz ≤ τ.1 := h1
  exact ⟨by omega, by omega, h3⟩
section CROWS
variable {d : Nat} {cd : List mBk} {rest : List mRI} {L : mL} {st : List Value} {σ : mMH} {P : mMH → Prop} {n : Nat} {c : Int32} {ps : List Nat}
theorem c_of {is : List mRI} {L' : mL} {st' : List Value} (h : ∀ τ K, mExb (mCall d) none none τ K rest L' st' σ → mExb (mCall d) none none τ K is L st σ) (k : RC d cd rest L' st' σ P) : RC d cd is L st σ P := by
  obtain ⟨τ, ⟨n, h1⟩, h2⟩ := k
  exact ⟨τ, ⟨n, h _ _ h1⟩, h2⟩
theorem c_ofH {is : List mRI} {L' : mL} {st' : List Value} {σ' : mMH} (e1 : σ'.1 = σ.1) (e2 : σ'.2.1 = σ.2.1) (h : ∀ τ K, mExb (mCall d) none none τ K rest L' st' σ' → mExb (mCall d) none none τ K is L st σ) (k : RC d cd rest L' st' σ' P) : RC d cd is L st σ P := by
  obtain ⟨τ, ⟨n, h1⟩, ⟨h2, h3, h4⟩, h5⟩ := k
  exact ⟨τ, ⟨n, h _ _ h1⟩, ⟨by rw [← e1]; exact h2, by rw [← e2]; exact h3, h4⟩, h5⟩
theorem c_int (k : RC d cd rest L (.int c :: st) σ P) : RC d cd ((0, n, c, ps) :: rest) L st σ P := c_of (fun _ _ h => h) k
theorem c_iload {i : Nat} {x : Int32} (h : L[i]? = some (some (.int x))) (k : RC d cd rest L (.int x :: st) σ P) : RC d cd ((1, n, c, i :: ps) :: rest) L st σ P := c_of (fun _ _ h2 => ⟨x, h, h2⟩) k
theorem c_aload {i : Nat} {x : Nat} (h : L[i]? = some (some (.ref x))) (k : RC d cd rest L (.ref x :: st) σ P) : RC d cd ((2, n, c, i :: ps) :: rest) L st σ P := c_of (fun _ _ h2 => ⟨x, h, h2⟩) k
theorem c_istore {i : Nat} {x : Int32} {L' : mL} (h : (decide (i < L.length) && mNL L i) = true) (e : L.set i (some (.int x)) = L') (k : RC d cd rest L' st σ P) : RC d cd ((4, n, c, i :: ps) :: rest) L (.int x :: st) σ P := by
  rw [Bool.and_eq_true, decide_eq_true_eq] at h
  subst e
  exact c_of (fun _ _ h2 => ⟨x, st, rfl, h.1, h.2, h2⟩) k
theorem c_iinc {i : Nat} {x : Int32} {L' : mL} (h : L[i]? = some (some (.int x))) (h1 : mNL L i = true) (e : L.set i (some (.int (x + c))) = L') (k : RC d cd rest L' st σ P) : RC d cd ((7, n, c, i :: ps) :: rest) L st σ P := by
  subst e
  exact c_of (fun _ _ h2 => ⟨x, h, h1, h2⟩) k
theorem c_dup {a : Value} (h : a.category = 1) (k : RC d cd rest L (a :: a :: st) σ P) : RC d cd ((15, n, c, ps) :: rest) L (a :: st) σ P := c_of (fun _ _ h2 => ⟨a, st, rfl, h, h2⟩) k
theorem c_pop {a : Value} (h : a.category = 1) (k : RC d cd rest L st σ P) : RC d cd ((17, n, c, ps) :: rest) L (a :: st) σ P := c_of (fun _ _ h2 => ⟨a, st, rfl, h, h2⟩) k
theorem c_jmp {b : Nat} {is : List mRI} {L' : mL} {st' : List Value} (h : ∀ τ K, K b L st σ → mExb (mCall d) none none τ K is L' st' σ) (k : RC d cd (cd.getD b (0, [])).2 L st σ P) : RC d cd is L' st' σ P := by
  obtain ⟨τ, ⟨n, h1⟩, h2⟩ := k
  exact ⟨τ, ⟨n + 1, h _ _ h1⟩, h2⟩
theorem c_icmpT {k b : Nat} {x y : Int32} (h : mCmp k x y) (kt : RC d cd (cd.getD b (0, [])).2 L st σ P) : RC d cd ((18, n, c, k :: b :: ps) :: rest) L (.int y :: .int x :: st) σ P := c_jmp (fun _ _ hk => ⟨x, y, st, rfl, fun _ => hk, fun q => absurd h q⟩) kt
theorem c_icmpF {k b : Nat} {x y : Int32} (h : ¬ mCmp k x y) (kf : RC d cd rest L st σ P) : RC d cd ((18, n, c, k :: b :: ps) :: rest) L (.int y :: .int x :: st) σ P := c_of (fun _ _ hk => ⟨x, y, st, rfl, fun q => absurd q h, fun _ => hk⟩) kf
theorem c_goto {b : Nat} (k : RC d cd (cd.getD b (0, [])).2 L st σ P) : RC d cd ((20, n, c, b :: ps) :: rest) L st σ P := c_jmp (fun _ _ h => h) k
theorem c_fall {b : Nat} (k : RC d cd (cd.getD b (0, [])).2 L st σ P) : RC d cd ((21, n, c, b :: ps) :: rest) L st σ P := c_jmp (fun _ _ h => h) k
theorem c_getr {o ci k q : Nat} (hk : σ.2.1[o]? = some (ci, 0)) (hr : σ.2.2.1 o k = some q) (kk : RC d cd rest L (.ref q :: st) σ P) : RC d cd ((24, n, c, ci :: k :: 4 :: ps) :: rest) L (.ref o :: st) σ P :=
  c_of (fun _ _ h => ⟨o, st, rfl, hk, by rw [show mFv σ o k 4 = .ref q from congrArg va_rf hr]; exact h⟩) kk
theorem c_put {o ci k : Nat} {x : Int32} (hk : σ.2.1[o]? = some (ci, 0)) (kk : RC d cd rest L st (mPv σ o k x) P) : RC d cd ((25, n, c, ci :: k :: 0 :: ps) :: rest) L (.int x :: .ref o :: st) σ P :=
  c_ofH (σ' := mPv σ o k x) rfl rfl (fun _ _ h => ⟨o, .int x, st, rfl, hk, x, rfl, h⟩) kk
theorem c_putr {o ci k q : Nat} (hk : σ.2.1[o]? = some (ci, 0)) (kk : RC d cd rest L st (mPr σ o k (some q)) P) : RC d cd ((25, n, c, ci :: k :: 4 :: ps) :: rest) L (.ref q :: .ref o :: st) σ P :=
  c_ofH (σ' := mPr σ o k (some q)) rfl rfl (fun _ _ h => ⟨o, .ref q, st, rfl, hk, some q, rfl, h⟩) kk
theorem c_ast {o kd l a : Nat} {i : Int32} (ho : σ.2.1[o]? = some (kd, l)) (hm : mAk 4 kd) (ha : σ.2.1[a]? = some (mEl kd, 0)) (hi : vp_in i l) (kk : RC d cd rest L st (mPr σ o i.toNatClampNeg (some a)) P) : RC d cd ((27, n, c, 4 :: ps) :: rest) L (.ref a :: .int i :: .ref o :: st) σ P :=
  c_ofH (σ' := mPr σ o i.toNatClampNeg (some a)) rfl rfl (fun _ _ h => ⟨i, o, kd, l, a, st, rfl, ho, hm, ha, hi, h⟩) kk
theorem c_obj {o : Nat} (hs : mSz st ≤ 8) (kk : RC d cd rest L st σ P) : RC d cd ((34, n, c, ps) :: rest) L (.ref o :: st) σ P := c_of (fun _ _ h => ⟨o, st, rfl, hs, h⟩) kk
theorem c_new {k : Nat} (ho : mOut σ.2.1.length (σ.2.1.length + 1) L st) (hr : rOK σ) (kk : RC d cd rest L (.ref σ.2.1.length :: st) (mNew σ k 0 (mFt.getD k []).length) P) : RC d cd ((35, n, c, k :: ps) :: rest) L st σ P := by
  obtain ⟨τ, ⟨m, h1⟩, h2, h3⟩ := kk
  exact ⟨τ, ⟨m, ho, hr.rfo, h2, h1⟩, mLe_new h2, h3⟩
theorem c_newa {t : Nat} {z : Int32} (hz : ¬ z < 0) (hb : z.toNatClampNeg ≤ 65536) (ho : mOut σ.2.1.length (σ.2.1.length + 1) L st) (hr : rOK σ) (kk : RC d cd rest L (.ref σ.2.1.length :: st) (mNew σ (20 + t) z.toNatClampNeg z.toNatClampNeg) P) : RC d cd ((36, n, c, t :: ps) :: rest) L (.int z :: st) σ P := by
  obtain ⟨τ, ⟨m, h1⟩, h2, h3⟩ := kk
  exact ⟨τ, ⟨m, z, st, rfl, ho, hr.rfo, hz, hb, h2, h1⟩, mLe_new h2, h3⟩
theorem c_newr {t : Nat} {z : Int32} (hz : ¬ z < 0) (hb : z.toNatClampNeg ≤ 65536) (ho : mOut σ.2.1.length (σ.2.1.length + 1) L st) (hr : rOK σ) (kk : RC d cd rest L (.ref σ.2.1.length :: st) (mNew σ (20 + t) z.toNatClampNeg z.toNatClampNeg) P) : RC d cd ((37, n, c, t :: ps) :: rest) L (.int z :: st) σ P := by
  obtain ⟨τ, ⟨m, h1⟩, h2, h3⟩ := kk
  exact ⟨τ, ⟨m, z, st, rfl, ho, hr.rfo, hz, hb, h2, h1⟩, mLe_new h2, h3⟩
theorem c_retv (hz : σ.2.1.length ≤ 1000000) (h : P σ) : RC d cd ((31, n, c, ps) :: rest) L [] σ P := ⟨σ, ⟨0, rfl, rfl, rfl, rfl⟩, ⟨Nat.le_refl _, Nat.le_refl _, hz⟩, h⟩
/-- a constructor is called -/
theorem c_call {j na kind ci o : Nat} {as : List Value} {stk : List Value} {P' : mMH → Prop} (e : stk = (.ref o :: as).reverse ++ st) (hl : as.length = na) (hs : mSz st ≤ 8) (hk : kind = 2 ∨ kind = 4) (hL : ∀ x : Nat, some (Value.ref x) ∈ L → x < σ.2.1.length) (hst : ∀ x : Nat, Value.ref x ∈ st → x < σ.2.1.length) (hc : CC d j (.ref o :: as) σ P') (kk : ∀ τ, P' τ → RC d cd rest L st τ P) : RC d cd ((29, n, c, j :: na :: kind :: ci :: ps) :: rest) L stk σ P := by
  subst e
  obtain ⟨σ', h1, h2, h3⟩ := hc
  obtain ⟨τ, ⟨m, h4⟩, h5, h6⟩ := kk σ' h3
  refine ⟨τ, ⟨m, .ref o :: as, st, rfl, ?_, hs, ?_, fun _ => ⟨o, as, rfl⟩, none, σ', h1, h2, h5, mOut_lt hL hst, h4⟩, ⟨Nat.le_trans h2.1 h5.1, Nat.le_trans h2.2.1 h5.2.1, h5.2.2⟩, h6⟩
  · rw [List.length_cons, hl, if_neg (by rintro (h | h) <;> rcases hk with hk | hk <;> omega)]
  · intro h0; rcases hk with hk | hk <;> omega
/-- what makes nothing more -/
theorem c_rest {is : List mRI} {Q : Option Int32 → mMH → Prop} (hz : σ.2.1.length ≤ 1000000) (h : RB d cd none is L st σ Q) (hn : ∀ r τ, Q r τ → r = none ∧ P τ) : RC d cd is L st σ P := by
  obtain ⟨r, τ, h1, h2, h3, h4⟩ := h hz
  obtain ⟨rfl, h5⟩ := hn r τ h4
  exact ⟨τ, h1, ⟨Nat.le_of_eq h2.symm, by rw [h3]; exact Nat.le_refl _, by rw [h3]; exact hz⟩, h5⟩
theorem c_begin {j : Nat} {as : List Value} {own : String} {y : MethodName} {bs : ByteArray} {nL kd : Nat} (hm : mt j = (own, y, bs, nL, none, kd, cd)) (h1 : ∀ v ∈ as, v.category = 1) (h2 : as.length ≤ nL) (k : RC d cd (cd.getD 0 (0, [])).2 (mArgs as nL) [] σ P) : CC (d + 1) j as σ P := by
  obtain ⟨τ, ⟨n, h3⟩, h4, h5⟩ := k
  refine ⟨τ, Or.inr ⟨h1, by rw [hm]; exact h2, h4, n + 1, ?_⟩, h4, h5⟩
  rw [hm]
  exact h3
end CROWS
theorem mSt_eq {σ : mMH} : σ = mH (σ.1, σ.2.1, σ.2.2.1) σ.2.2.2.1 σ.2.2.2.2 := rfl
/-- rows laid where they stand already -/
theorem mSt_lay {σ : mMH} (env : List (Nat × mF)) (h : ∀ x ∈ env, σ.2.2.2.1 x.1 = x.2) : mH (σ.1, σ.2.1, σ.2.2.1) (mE σ.2.2.2.1 env) σ.2.2.2.2 = σ := by
  rw [mE_id env h]
/-! what a constructor leaves as it was -/
def Ex (σ τ : mMH) (o : Nat) : Prop := (∀ (q : Nat) (x : Nat × Nat), σ.2.1[q]? = some x → τ.2.1[q]? = some x) ∧ ∀ q : Nat, q < σ.2.1.length → q ≠ o → τ.2.2.1 q = σ.2.2.1 q ∧ τ.2.2.2.1 q = σ.2.2.2.1 q ∧ τ.2.2.2.2 q = σ.2.2.2.2 q
theorem Ex.rf {σ : mMH} {o : Nat} : Ex σ σ o := ⟨fun _ _ h => h, fun _ _ _ => ⟨rfl, rfl, rfl⟩⟩
theorem Ex.new {σ σ1 : mMH} {o kd len sz : Nat} (X : Ex σ σ1 o) (h : σ.2.1.length ≤ σ1.2.1.length) : Ex σ (mNew σ1 kd len sz) o := by
  refine ⟨fun q x hq => k_new (X.1 q x hq), fun q h1 h2 => ?_⟩
  have hne : q ≠ σ1.2.1.length := by omega
  obtain ⟨a, b, c⟩ := X.2 q h1 h2
  exact ⟨(mup_ne hne).trans a, (mup_ne hne).trans b, (mup_ne hne).trans c⟩
theorem Ex.pr {σ σ1 : mMH} {o q0 k : Nat} {x : Option Nat} (X : Ex σ σ1 o) (h : q0 = o ∨ σ.2.1.length ≤ q0) : Ex σ (mPr σ1 q0 k x) o := by
  refine ⟨X.1, fun q h1 h2 => ?_⟩
  have hne : q ≠ q0 := by omega
  obtain ⟨a, b, c⟩ := X.2 q h1 h2
  exact ⟨(mup_ne hne).trans a, b, c⟩
theorem Ex.pv {σ σ1 : mMH} {o q0 k : Nat} {x : Int32} (X : Ex σ σ1 o) (h : q0 = o ∨ σ.2.1.length ≤ q0) : Ex σ (mPv σ1 q0 k x) o := by
  refine ⟨X.1, fun q h1 h2 => ?_⟩
  have hne : q ≠ q0 := by omega
  obtain ⟨a, b, c⟩ := X.2 q h1 h2
  exact ⟨a, (mup_ne hne).trans b, c⟩
theorem Ex.call {σ σ1 τ : mMH} {o q0 : Nat} (X : Ex σ σ1 o) (E : Ex σ1 τ q0) (h : σ.2.1.length ≤ q0 ∧ σ.2.1.length ≤ σ1.2.1.length) : Ex σ τ o := by
  refine ⟨fun q x hq => E.1 q x (X.1 q x hq), fun q h1 h2 => ?_⟩
  obtain ⟨a, b, c⟩ := X.2 q h1 h2
  obtain ⟨a', b', c'⟩ := E.2 q (by omega) (by omega)
  exact ⟨a'.trans a, b'.trans b, c'.trans c⟩
theorem mE_out {v : mV} : ∀ (env : List (Nat × mF)) (q : Nat), (∀ x ∈ env, x.1 ≠ q) → mE v env q = v q
  | [], _, _ => rfl
  | (a, f) :: r, q, h => by
    show va_up (mE v r) a f q = v q
    rw [mup_ne (fun e => h (a, f) List.mem_cons_self e.symm)]
    exact mE_out r q (fun x hx => h x (List.mem_cons_of_mem _ hx))
theorem Ex.lay {σ σ1 : mMH} {o : Nat} (X : Ex σ σ1 o) (env : List (Nat × mF)) (h : ∀ x ∈ env, x.1 = o ∨ σ.2.1.length ≤ x.1) : Ex σ (mH (σ1.1, σ1.2.1, σ1.2.2.1) (mE σ1.2.2.2.1 env) σ1.2.2.2.2) o := by
  refine ⟨X.1, fun q h1 h2 => ?_⟩
  obtain ⟨a, b, c⟩ := X.2 q h1 h2
  exact ⟨a, (mE_out env q (fun x hx e => by rcases h x hx with h | h <;> omega)).trans b, c⟩
def mBo (σ : mMH) : mB := (σ.1, σ.2.1, σ.2.2.1)
section EXT
variable {σ τ : mMH}
theorem isDia_ext {g : Nat} (h : isDia (mBo σ) g) (hk : ∀ (q : Nat) (x : Nat × Nat), σ.2.1[q]? = some x → τ.2.1[q]? = some x) (hr : ∀ q, g ≤ q → q < g + 2 → τ.2.2.1 q = σ.2.2.1 q) : isDia (mBo τ) g := by
  obtain ⟨h1, h2, h3⟩ := h
  exact ⟨hk _ _ h1, hk _ _ h2, (congrFun (hr g (by omega) (by omega)) 2).trans h3⟩
theorem isTim_ext {g : Nat} (h : isTim (mBo σ) g) (hk : ∀ (q : Nat) (x : Nat × Nat), σ.2.1[q]? = some x → τ.2.1[q]? = some x) (hr : ∀ q, g ≤ q → q < g + 4 → τ.2.2.1 q = σ.2.2.1 q) : isTim (mBo τ) g := by
  obtain ⟨h1, h2, h3, h4, h5, h6, h7⟩ := h
  have e := hr g (by omega) (by omega)
  exact ⟨hk _ _ h1, hk _ _ h2, hk _ _ h3, hk _ _ h4, (congrFun e 1).trans h5, (congrFun e 2).trans h6, (congrFun e 3).trans h7⟩
theorem isWays_ext {g : Nat} (h : isWays (mBo σ) g) (hk : ∀ (q : Nat) (x : Nat × Nat), σ.2.1[q]? = some x → τ.2.1[q]? = some x) (hr : ∀ q, g ≤ q → q < g + 4 → τ.2.2.1 q = σ.2.2.1 q) : isWays (mBo τ) g := by
  obtain ⟨h1, h2, h3, h4, h5, h6, h7⟩ := h
  have e := hr g (by omega) (by omega)
  exact ⟨hk _ _ h1, hk _ _ h2, hk _ _ h3, hk _ _ h4, (congrFun e 1).trans h5, (congrFun e 2).trans h6, (congrFun e 3).trans h7⟩
theorem isMach_ext {b g : Nat} (h : isMach (mBo σ) b g) (hk : ∀ (q : Nat) (x : Nat × Nat), σ.2.1[q]? = some x → τ.2.1[q]? = some x) (hr : ∀ q, b ≤ q → q < b + 11 → τ.2.2.1 q = σ.2.2.1 q) (hg : ∀ q, g ≤ q → q < g + 2 → τ.2.2.1 q = σ.2.2.1 q) : isMach (mBo τ) b g := by
  obtain ⟨h1, h2, h3, h4, h5, h6, h7, h8, h9, a1, a2, a3, a4, a5, a6, a7, a8⟩ := h
  have e := hr b (by omega) (by omega)
  have e8 := hr (b + 8) (by omega) (by omega)
  exact ⟨hk _ _ h1, hk _ _ h2, hk _ _ h3, hk _ _ h4, hk _ _ h5, isTim_ext h6 hk (fun q q1 q2 => hr q (by omega) (by omega)), hk _ _ h7, hk _ _ h8, isDia_ext h9 hk hg, (congrFun e 1).trans a1, (congrFun e 2).trans a2, (congrFun e 3).trans a3, (congrFun e 4).trans a4, (congrFun e 5).trans a5, (congrFun e 6).trans a6, (congrFun e8 0).trans a7, (congrFun e8 1).trans a8⟩
theorem isWorld_ext {w : Nat} (h : isWorld (mBo σ) w) (hk : ∀ (q : Nat) (x : Nat × Nat), σ.2.1[q]? = some x → τ.2.1[q]? = some x) (hr : ∀ q, w ≤ q → q < w + 26 → τ.2.2.1 q = σ.2.2.1 q) : isWorld (mBo τ) w := by
  obtain ⟨h1, h2, h3, h4, h5, a1, a2, a3, a4⟩ := h
  have hd : ∀ q, w + 1 ≤ q → q < w + 1 + 2 → τ.2.2.1 q = σ.2.2.1 q := fun q q1 q2 => hr q (by omega) (by omega)
  have e := hr w (by omega) (by omega)
  have e3 := hr (w + 3) (by omega) (by omega)
  exact ⟨hk _ _ h1, isDia_ext h2 hk hd, hk _ _ h3, isMach_ext h4 hk (fun q q1 q2 => hr q (by omega) (by omega)) hd, isMach_ext h5 hk (fun q q1 q2 => hr q (by omega) (by omega)) hd, (congrFun e 0).trans a1, (congrFun e 1).trans a2, (congrFun e3 0).trans a3, (congrFun e3 1).trans a4⟩
theorem isPrg_ext {g : Nat} (h : isPrg (mBo σ) g) (hk : ∀ (q : Nat) (x : Nat × Nat), σ.2.1[q]? = some x → τ.2.1[q]? = some x) (hr : ∀ q, g ≤ q → q < g + 14 → τ.2.2.1 q = σ.2.2.1 q) : isPrg (mBo τ) g := by
  obtain ⟨h1, h2, h3, h4, h5, h6, h7, h8, h9, h10, h11, h12, h13, h14, a1, a2, a3, a4, a5, a6, a7, a8, a9, a10, a11, a12, a13⟩ := h
  have e := hr g (by omega) (by omega)
  exact ⟨hk _ _ h1, hk _ _ h2, hk _ _ h3, hk _ _ h4, hk _ _ h5, hk _ _ h6, hk _ _ h7, hk _ _ h8, hk _ _ h9, hk _ _ h10, hk _ _ h11, hk _ _ h12, hk _ _ h13, hk _ _ h14, (congrFun e _).trans a1, (congrFun e _).trans a2, (congrFun e _).trans a3, (congrFun e _).trans a4, (congrFun e _).trans a5, (congrFun e _).trans a6, (congrFun e _).trans a7, (congrFun e _).trans a8, (congrFun e _).trans a9, (congrFun e _).trans a10, (congrFun e _).trans a11, (congrFun e _).trans a12, (congrFun e _).trans a13⟩
end EXT
theorem mSt_layW {σ : mMH} (env : List (Nat × mF)) (el : List (Nat × mFl)) (h : ∀ x ∈ env, σ.2.2.2.1 x.1 = x.2) (hl : ∀ x ∈ el, σ.2.2.2.2 x.1 = x.2) : mH (σ.1, σ.2.1, σ.2.2.1) (mE σ.2.2.2.1 env) (mEw σ.2.2.2.2 el) = σ := by
  rw [mE_id env h, mEw_id el hl]
def isRd (B : mB) (ro : Nat) : Prop := B.2.1[ro]? = some (5, 0) ∧ B.2.1[ro + 1]? = some (20, 43) ∧ B.2.1[ro + 17]? = some (20, 112) ∧ B.2.1[ro + 18]? = some (20, 112) ∧ B.2.1[ro + 19]? = some (20, 112) ∧ B.2.2 ro 0 = some (ro + 1) ∧ B.2.2 ro 11 = some (ro + 17) ∧ B.2.2 ro 12 = some (ro + 18) ∧ B.2.2 ro 13 = some (ro + 19)
def isHi (B : mB) (ho : Nat) : Prop := isHist B ho ∧ (∀ i, i < 8 → B.2.2 (ho + 1) i = some (ho + 2 + 26 * i)) ∧ ∀ i, i < 8 → isWorld B (ho + 2 + 26 * i)
theorem isRd_ext {σ τ : mMH} {g : Nat} (h : isRd (mBo σ) g) (hk : ∀ (q : Nat) (x : Nat × Nat), σ.2.1[q]? = some x → τ.2.1[q]? = some x) (hr : ∀ q, g ≤ q → q < g + 20 → τ.2.2.1 q = σ.2.2.1 q) : isRd (mBo τ) g := by
  obtain ⟨h1, h2, h3, h4, h5, a1, a2, a3, a4⟩ := h
  have e := hr g (by omega) (by omega)
  exact ⟨hk _ _ h1, hk _ _ h2, hk _ _ h3, hk _ _ h4, hk _ _ h5, (congrFun e _).trans a1, (congrFun e _).trans a2, (congrFun e _).trans a3, (congrFun e _).trans a4⟩
theorem isHi_ext {σ τ : mMH} {g : Nat} (h : isHi (mBo σ) g) (hk : ∀ (q : Nat) (x : Nat × Nat), σ.2.1[q]? = some x → τ.2.1[q]? = some x) (hr : ∀ q, g ≤ q → q < g + 210 → τ.2.2.1 q = σ.2.2.1 q) : isHi (mBo τ) g := by
  obtain ⟨⟨h1, h2, h3⟩, h4, h5⟩ := h
  refine ⟨⟨hk _ _ h1, hk _ _ h2, (congrFun (hr g (by omega) (by omega)) _).trans h3⟩, fun i hi => (congrFun (hr (g + 1) (by omega) (by omega)) _).trans (h4 i hi), fun i hi => isWorld_ext (h5 i hi) hk (fun q q1 q2 => hr q (by omega) (by omega))⟩
/-! PURE: what fills a row -/
theorem pFill192b (x : Int32) : ∀ (m i n : Nat) (f : mF), i + m = 192 → m < n → OJ_fill_192_b1 n x 192 (nI i) f ∧ FJ_fill_192_b1 n x 192 (nI i) f = fun j => if i ≤ j ∧ j < 192 then x else f j
  | _, _, 0, _, _, h => absurd h (Nat.not_lt_zero _)
  | 0, i, n + 1, f, h, _ => by
    have e : i = 192 := by omega
    subst e
    rw [OJ_fill_192_b1, FJ_fill_192_b1]
    have c : (192 : Int32) ≤ nI 192 := by decide
    refine ⟨⟨fun _ => trivial, fun h => absurd c h⟩, ?_⟩
    rw [if_pos c]
    funext j
    rw [if_neg (by omega)]
  | m + 1, i, n + 1, f, h, hn => by
    have c : ¬ (192 : Int32) ≤ nI i := nI_ge (a := i) (b := 192) (by omega) (by decide)
    have ih := pFill192b x m (i + 1) n (upd f i x) (by omega) (by omega)
    rw [OJ_fill_192_b1, FJ_fill_192_b1, if_neg c, nI_clamp (by omega), nI_1]
    refine ⟨⟨fun h => absurd h c, fun _ => ⟨vp_in_nI (by omega) (by decide), ?_⟩⟩, ?_⟩
    · exact ih.1
    · refine ih.2.trans ?_
      funext j
      unfold upd
      by_cases h1 : i + 1 ≤ j ∧ j < 192
      · rw [if_pos h1, if_pos (by omega)]
      · by_cases h2 : j = i
        · subst h2; rw [if_neg h1, if_pos rfl, if_pos (by omega)]
        · rw [if_neg h1, if_neg h2, if_neg (by omega)]
theorem pFill192 (x : Int32) (f : mF) : OJ_fill_192 x f ∧ (FJ_fill_192 x f).2 = fun j => if j < 192 then x else f j := by
  have h := pFill192b x 192 0 10000 f rfl (by decide)
  rw [nI_0] at h
  have e : (FJ_fill_192 x f).2 = FJ_fill_192_b1 10000 x 192 0 f := by rw [FJ_fill_192]
  rw [e, h.2, OJ_fill_192]
  refine ⟨h.1, ?_⟩
  funext j
  simp
theorem pAddNamesO (si : Nat) (hs : mSl.getD si 0 < 1000) : ∀ (m i n k : Nat) (y3 : Int32) (f : mF), i + m = mSl.getD si 0 → m < n → k ≤ 43 → OX5_addNames_b1 si n (nI k) y3 (nI i) f ∧ ∃ k', k' ≤ 43 ∧ (FX5_addNames_b1 si n (nI k) y3 (nI i) f).1 = nI k'
  | _, _, 0, _, _, _, _, h, _ => absurd h (Nat.not_lt_zero _)
  | 0, i, n + 1, k, y3, f, h, _, hk => by
    have e : i = mSl.getD si 0 := by omega
    rw [OX5_addNames_b1, FX5_addNames_b1, e]
    have c : nI (mSl.getD si 0) ≤ nI (mSl.getD si 0) := nI_le (Nat.le_refl _) (by omega)
    rw [if_pos c]
    exact ⟨⟨fun _ => trivial, fun h => absurd c h⟩, k, hk, rfl⟩
  | m + 1, i, n + 1, k, y3, f, h, hn, hk => by
    have c : ¬ nI (mSl.getD si 0) ≤ nI i := nI_ge (by omega) (by omega)
    rw [OX5_addNames_b1, FX5_addNames_b1, if_neg c]
    have hv : vp_in (nI i) (mSl.getD si 0) := vp_in_nI (by omega) (by omega)
    by_cases c2 : (43 : Int32) ≤ nI k
    · rw [if_pos c2]
      exact ⟨⟨fun h => absurd h c, fun _ => ⟨fun _ => trivial, fun h => absurd c2 h⟩⟩, k, hk, rfl⟩
    · have hk2 : k < 43 := by
        rcases Nat.lt_or_ge k 43 with q | q
        · exact q
        · exact absurd (nI_le (a := 43) q (by omega)) c2
      rw [if_neg c2, nI_clamp (by omega), nI_1, nI_1]
      by_cases c3 : mSc si i = 32
      · rw [if_pos c3]
        have ih := pAddNamesO si hs m (i + 1) n (k + 1) 0 (upd f (nI k).toNatClampNeg y3) (by omega) (by omega) (by omega)
        exact ⟨⟨fun h => absurd h c, fun _ => ⟨fun h => absurd h c2, fun _ => ⟨hv, fun _ => ⟨vp_in_nI hk2 (by decide), ih.1⟩, fun h => absurd c3 h⟩⟩⟩, ih.2⟩
      · rw [if_neg c3]
        have ih := pAddNamesO si hs m (i + 1) n k (FX5_pack y3 (mSc si i)) f (by omega) (by omega) hk
        exact ⟨⟨fun h => absurd h c, fun _ => ⟨fun h => absurd h c2, fun _ => ⟨hv, fun h => absurd h c3, fun _ => ⟨hv, ih.1⟩⟩⟩⟩, ih.2⟩
theorem pNamesA (si k : Nat) (x : Int32) (f : mF) (hs : si < 6) (hk : k ≤ 43) (e : x = nI k) : OX5_addNames si x f ∧ ∃ k', k' ≤ 43 ∧ (FX5_addNames si x f).1 = nI k' := by
  have hl := (mSl_ok si hs).2.1
  have h := pAddNamesO si hl (mSl.getD si 0) 0 10000 k 0 f (Nat.zero_add _) (by omega) hk
  rw [nI_0, ← e] at h
  rw [OX5_addNames, FX5_addNames]
  exact h
theorem pNamesO : OX5_init_t (fun _ => 0) := by
  rw [OX5_init_t]
  obtain ⟨h0, k0, q0, e0⟩ := pNamesA 0 0 0 (fun _ => 0) (by decide) (by decide) rfl
  refine ⟨h0, ?_⟩
  generalize FX5_addNames 0 0 (fun _ => 0) = u1 at e0 ⊢
  obtain ⟨h1, k1, q1, e1⟩ := pNamesA 1 k0 u1.1 u1.2 (by decide) q0 e0
  refine ⟨h1, ?_⟩
  dsimp only
  generalize FX5_addNames 1 u1.1 u1.2 = u3 at e1 ⊢
  obtain ⟨h2, k2, q2, e2⟩ := pNamesA 2 k1 u3.1 u3.2 (by decide) q1 e1
  refine ⟨h2, ?_⟩
  generalize FX5_addNames 2 u3.1 u3.2 = u5 at e2 ⊢
  obtain ⟨h3, k3, q3, e3⟩ := pNamesA 3 k2 u5.1 u5.2 (by decide) q2 e2
  refine ⟨h3, ?_⟩
  generalize FX5_addNames 3 u5.1 u5.2 = u7 at e3 ⊢
  exact (pNamesA 4 k3 u7.1 u7.2 (by decide) q3 e3).1
