/-! THE STEP MACHINE -/
def mBin (k : Nat) (x y : Int32) : Int32 := match k with
  | 0 => x + y
  | 1 => x - y
  | 2 => x * y
  | 3 => x &&& y
  | 4 => x >>> (y &&& 31)
  | _ => (x.toUInt32 >>> (y.toUInt32 &&& Int32.toUInt32 31)).toInt32
def mDR (k : Nat) (x y : Int32) : Int32 := match k with
  | 0 => x / y
  | _ => x - x / y * y
def mUn (k : Nat) (x : Int32) : Int32 := match k with
  | 0 => -x
  | _ => x.toInt8.toInt32
def mLB (k : Nat) (x y : Int64) : Int64 := match k with
  | 0 => x + y
  | 1 => x - y
  | _ => x * y
def mCmp (k : Nat) (x y : Int32) : Prop := match k with
  | 0 => x = y
  | 1 => ¬ x = y
  | 2 => x < y
  | 3 => y ≤ x
  | 4 => y < x
  | _ => x ≤ y
def mLk (c x : Int32) : List Nat → Nat → Nat
  | v :: b :: r, d => if c.toInt + (v : Int) = x.toInt then b else mLk c x r d
  | _, d => d
def mFv (σ : mMH) (o k t : Nat) : Value := match t with
  | 4 => va_rf (σ.2.2.1 o k)
  | 3 => .long (σ.2.2.2.2 o k)
  | _ => .int (σ.2.2.2.1 o k)
def mAv (σ : mMH) (o k t : Nat) : Value := match t with
  | 4 => va_rf (σ.2.2.1 o k)
  | 3 => .long (σ.2.2.2.2 o k)
  | _ => .int (σ.2.2.2.1 o k)
/-- which kinds of rows an instruction's letter reads -/
def mAk (t kd : Nat) : Prop := match t with
  | 0 => kd = 20
  | 1 => kd = 21 ∨ kd = 22
  | 3 => kd = 23
  | _ => kd = 24 ∨ kd = 25 ∨ kd = 26
def mTy (kd : Nat) : FieldType := match kd with
  | 20 => .int
  | 21 => .byte
  | 22 => .boolean
  | 23 => .long
  | 24 => .object "MeetingMachines$Link"
  | 25 => .object "MeetingMachines$Machine"
  | _ => .object "MeetingMachines$World"
def mEl (kd : Nat) : Nat := match kd with
  | 24 => 2
  | 25 => 3
  | _ => 8
def mNr (kd : Nat) (x : Int32) : Int32 := match kd with
  | 20 => x
  | 21 => vp_nar .byte x
  | _ => vp_nar .boolean x
def mNL (L : mL) (i : Nat) : Bool := match L[i - 1]? with
  | some (some v) => decide (v.category = 1)
  | _ => true
def mSz (st : List Value) : Nat := (st.map fun v => v.category).sum
def mPv (σ : mMH) (o k : Nat) (x : Int32) : mMH := (σ.1, σ.2.1, σ.2.2.1, va_up σ.2.2.2.1 o (upd (σ.2.2.2.1 o) k x), σ.2.2.2.2)
def mPw (σ : mMH) (o k : Nat) (x : Int64) : mMH := (σ.1, σ.2.1, σ.2.2.1, σ.2.2.2.1, va_up σ.2.2.2.2 o (vp_updL (σ.2.2.2.2 o) k x))
def mPr (σ : mMH) (o k : Nat) (x : Option Nat) : mMH := (σ.1, σ.2.1, va_up σ.2.2.1 o (va_up (σ.2.2.1 o) k x), σ.2.2.2.1, σ.2.2.2.2)
def mProw (σ : mMH) (o : Nat) (g : Nat → Int32) : mMH := (σ.1, σ.2.1, σ.2.2.1, va_up σ.2.2.2.1 o g, σ.2.2.2.2)
/-- a new object at the end: all its places are nothing, 0 -/
def mNew (σ : mMH) (kd len sz : Nat) : mMH := (σ.1 + sz, σ.2.1 ++ [(kd, len)], va_up σ.2.2.1 σ.2.1.length (fun _ => none), va_up σ.2.2.2.1 σ.2.1.length (fun _ => 0), va_up σ.2.2.2.2 σ.2.1.length (fun _ => 0))
def mPut (kk : mMH → Prop) (σ : mMH) (o k t : Nat) (v : Value) : Prop := match t with
  | 4 => ∃ q : Option Nat, v = va_rf q ∧ kk (mPr σ o k q)
  | 3 => ∃ x : Int64, v = .long x ∧ kk (mPw σ o k x)
  | 1 => ∃ x : Int32, v = .int x ∧ (x = 0 ∨ x = 1) ∧ kk (mPv σ o k x)
  | _ => ∃ x : Int32, v = .int x ∧ kk (mPv σ o k x)
def mRt (rt : Option FieldType) (x : Int32) : Prop := ∃ ty, rt = some ty ∧ narrow ty (.int x) = .int x
/-- no more is made than what stands at the end -/
def mLe (σ τ : mMH) : Prop := σ.1 ≤ τ.1 ∧ σ.2.1.length ≤ τ.2.1.length ∧ τ.2.1.length ≤ 1000000
/-- no reference here is one of the numbers that come new -/
def mOut (a b : Nat) (L : mL) (st : List Value) : Prop := (∀ x : Nat, some (Value.ref x) ∈ L → x < a ∨ b ≤ x) ∧ ∀ x : Nat, Value.ref x ∈ st → x < a ∨ b ≤ x
def mRfo (σ : mMH) : Prop := ∀ o k x : Nat, σ.2.2.1 o k = some x → x < σ.2.1.length ∨ σ.2.1.length + 1 ≤ x
def mSl : List Nat := [39, 34, 46, 64, 20, 203]
def mSb : List (List Int32) := [[108, 100, 99, 32, 108, 100, 108, 32, 115, 116, 108, 32, 108, 100, 108, 112, 32, 97, 100, 99, 32, 101, 113, 99, 32, 97, 106, 119, 32, 106, 32, 99, 106, 32, 108, 100, 112, 105, 32], [97, 100, 100, 32, 115, 117, 98, 32, 109, 117, 108, 32, 103, 116, 32, 114, 101, 118, 32, 100, 117, 112, 32, 108, 111, 97, 100, 32, 115, 116, 111, 114, 101, 32], [115, 116, 97, 114, 116, 112, 32, 101, 110, 100, 112, 32, 115, 116, 111, 112, 112, 32, 114, 117, 110, 112, 32, 108, 100, 112, 114, 105, 32, 99, 108, 111, 99, 107, 32, 116, 105, 110, 32, 105, 110, 32, 111, 117, 116, 32], [97, 108, 116, 32, 97, 108, 116, 119, 116, 32, 97, 108, 116, 101, 110, 100, 32, 101, 110, 98, 99, 32, 100, 105, 115, 99, 32, 101, 110, 98, 115, 32, 100, 105, 115, 115, 32, 116, 97, 108, 116, 32, 116, 97, 108, 116, 119, 116, 32, 101, 110, 98, 116, 32, 100, 105, 115, 116, 32, 104, 97, 108, 116, 32], [115, 108, 105, 99, 101, 32, 119, 111, 114, 100, 32, 106, 111, 105, 110, 32, 114, 117, 110, 32], [108, 100, 99, 32, 108, 100, 108, 32, 115, 116, 108, 32, 108, 100, 108, 112, 32, 97, 100, 99, 32, 101, 113, 99, 32, 97, 106, 119, 32, 106, 32, 99, 106, 32, 108, 100, 112, 105, 32, 97, 100, 100, 32, 115, 117, 98, 32, 109, 117, 108, 32, 103, 116, 32, 114, 101, 118, 32, 100, 117, 112, 32, 108, 111, 97, 100, 32, 115, 116, 111, 114, 101, 32, 115, 116, 97, 114, 116, 112, 32, 101, 110, 100, 112, 32, 115, 116, 111, 112, 112, 32, 114, 117, 110, 112, 32, 108, 100, 112, 114, 105, 32, 99, 108, 111, 99, 107, 32, 116, 105, 110, 32, 105, 110, 32, 111, 117, 116, 32, 97, 108, 116, 32, 97, 108, 116, 119, 116, 32, 97, 108, 116, 101, 110, 100, 32, 101, 110, 98, 99, 32, 100, 105, 115, 99, 32, 101, 110, 98, 115, 32, 100, 105, 115, 115, 32, 116, 97, 108, 116, 32, 116, 97, 108, 116, 119, 116, 32, 101, 110, 98, 116, 32, 100, 105, 115, 116, 32, 104, 97, 108, 116, 32, 115, 108, 105, 99, 101, 32, 119, 111, 114, 100, 32, 106, 111, 105, 110, 32, 114, 117, 110, 32]]
def mSc (i k : Nat) : Int32 := (mSb.getD i []).getD k 0
def mStp (call : Nat → List Value → mMH → Option Int32 → mMH → Prop) (rt : Option FieldType) (r : Option Int32) (τ : mMH) (K : Nat → mL → List Value → mMH → Prop) (ri : mRI) (L : mL) (st : List Value) (σ : mMH) (kk : mL → List Value → mMH → Prop) : Prop := match ri with
  | (0, _, c, _) => kk L (.int c :: st) σ
  | (1, _, _, i :: _) => ∃ x : Int32, L[i]? = some (some (.int x)) ∧ kk L (.int x :: st) σ
  | (2, _, _, i :: _) => ∃ x : Nat, L[i]? = some (some (.ref x)) ∧ kk L (.ref x :: st) σ
  | (3, _, _, i :: _) => ∃ x : Int64, L[i]? = some (some (.long x)) ∧ kk L (.long x :: st) σ
  | (4, _, _, i :: _) => ∃ (x : Int32) (st' : List Value), st = .int x :: st' ∧ i < L.length ∧ mNL L i = true ∧ kk (L.set i (some (.int x))) st' σ
  | (5, _, _, i :: _) => ∃ (x : Nat) (st' : List Value), st = .ref x :: st' ∧ i < L.length ∧ mNL L i = true ∧ kk (L.set i (some (.ref x))) st' σ
  | (6, _, _, i :: _) => ∃ (x : Int64) (st' : List Value), st = .long x :: st' ∧ i + 1 < L.length ∧ mNL L i = true ∧ kk ((L.set i (some (.long x))).set (i + 1) none) st' σ
  | (7, _, c, i :: _) => ∃ x : Int32, L[i]? = some (some (.int x)) ∧ mNL L i = true ∧ kk (L.set i (some (.int (x + c)))) st σ
  | (8, _, _, k :: _) => ∃ (x y : Int32) (st' : List Value), st = .int y :: .int x :: st' ∧ kk L (.int (mBin k x y) :: st') σ
  | (9, _, _, k :: _) => ∃ (x y : Int32) (st' : List Value), st = .int y :: .int x :: st' ∧ ¬ y = 0 ∧ kk L (.int (mDR k x y) :: st') σ
  | (10, _, _, k :: _) => ∃ (x : Int32) (st' : List Value), st = .int x :: st' ∧ kk L (.int (mUn k x) :: st') σ
  | (11, _, _, k :: _) => ∃ (x y : Int64) (st' : List Value), st = .long y :: .long x :: st' ∧ kk L (.long (mLB k x y) :: st') σ
  | (12, _, _, _) => ∃ (x y : Int64) (st' : List Value), st = .long y :: .long x :: st' ∧ kk L (.int (lg_cmp x y) :: st') σ
  | (13, _, _, _) => ∃ (x : Int32) (st' : List Value), st = .int x :: st' ∧ kk L (.long x.toInt64 :: st') σ
  | (14, _, c, _) => kk L (.long c.toInt64 :: st) σ
  | (15, _, _, _) => ∃ (v : Value) (st' : List Value), st = v :: st' ∧ v.category = 1 ∧ kk L (v :: v :: st') σ
  | (16, _, _, _) => ∃ (v w : Value) (st' : List Value), st = v :: w :: st' ∧ v.category = 1 ∧ w.category = 1 ∧ kk L (v :: w :: v :: w :: st') σ
  | (17, _, _, _) => ∃ (v : Value) (st' : List Value), st = v :: st' ∧ v.category = 1 ∧ kk L st' σ
  | (18, _, _, k :: b :: _) => ∃ (x y : Int32) (st' : List Value), st = .int y :: .int x :: st' ∧ (mCmp k x y → K b L st' σ) ∧ (¬ mCmp k x y → kk L st' σ)
  | (19, _, _, k :: b :: _) => ∃ (x : Int32) (st' : List Value), st = .int x :: st' ∧ (mCmp k x 0 → K b L st' σ) ∧ (¬ mCmp k x 0 → kk L st' σ)
  | (20, _, _, b :: _) => K b L st σ
  | (21, _, _, b :: _) => K b L st σ
  | (22, _, c, d :: ts) => ∃ (x : Int32) (st' : List Value), st = .int x :: st' ∧ ((x.toInt < c.toInt ∨ c.toInt + ts.length ≤ x.toInt) → K d L st' σ) ∧ ∀ (q b : Nat), ts[q]? = some b → x.toInt = c.toInt + q → K b L st' σ
  | (23, _, c, d :: ps) => ∃ (x : Int32) (st' : List Value), st = .int x :: st' ∧ K (mLk c x ps d) L st' σ
  | (24, _, _, c :: k :: t :: _) => ∃ (o : Nat) (st' : List Value), st = .ref o :: st' ∧ σ.2.1[o]? = some (c, 0) ∧ kk L (mFv σ o k t :: st') σ
  | (25, _, _, c :: k :: t :: _) => ∃ (o : Nat) (v : Value) (st' : List Value), st = v :: .ref o :: st' ∧ σ.2.1[o]? = some (c, 0) ∧ mPut (fun σ' => kk L st' σ') σ o k t v
  | (26, _, _, t :: _) => ∃ (i : Int32) (o kd n : Nat) (st' : List Value), st = .int i :: .ref o :: st' ∧ σ.2.1[o]? = some (kd, n) ∧ mAk t kd ∧ vp_in i n ∧ kk L (mAv σ o i.toNatClampNeg t :: st') σ
  | (27, _, _, 3 :: _) => ∃ (i : Int32) (o n : Nat) (x : Int64) (st' : List Value), st = .long x :: .int i :: .ref o :: st' ∧ σ.2.1[o]? = some (23, n) ∧ vp_in i n ∧ kk L st' (mPw σ o i.toNatClampNeg x)
  | (27, _, _, 4 :: _) => ∃ (i : Int32) (o kd n a : Nat) (st' : List Value), st = .ref a :: .int i :: .ref o :: st' ∧ σ.2.1[o]? = some (kd, n) ∧ mAk 4 kd ∧ σ.2.1[a]? = some (mEl kd, 0) ∧ vp_in i n ∧ kk L st' (mPr σ o i.toNatClampNeg (some a))
  | (27, _, _, t :: _) => ∃ (i : Int32) (o kd n : Nat) (x : Int32) (st' : List Value), st = .int x :: .int i :: .ref o :: st' ∧ σ.2.1[o]? = some (kd, n) ∧ t < 2 ∧ mAk t kd ∧ vp_in i n ∧ kk L st' (mPv σ o i.toNatClampNeg (mNr kd x))
  | (28, _, _, _) => ∃ (o kd n : Nat) (st' : List Value), st = .ref o :: st' ∧ σ.2.1[o]? = some (kd, n) ∧ 20 ≤ kd ∧ kd ≤ 26 ∧ kk L (.int (nI n) :: st') σ
  | (29, _, _, j :: na :: kind :: c :: _) => ∃ (as st' : List Value), st = as.reverse ++ st' ∧ as.length = na + (if kind = 1 ∨ kind = 3 then 0 else 1) ∧ mSz st' ≤ 8 ∧ (kind = 0 → ∃ o l, as = .ref o :: l ∧ σ.2.1[o]? = some (c, 0)) ∧ (kind = 2 ∨ kind = 4 → ∃ o l, as = .ref o :: l) ∧ ∃ (r' : Option Int32) (σ' : mMH), call j as σ r' σ' ∧ mLe σ σ' ∧ mLe σ' τ ∧ mOut σ.2.1.length σ'.2.1.length L st' ∧ kk L ((r'.map Value.int).toList ++ st') σ'
  | (30, _, _, _) => ∃ x : Int32, st = [.int x] ∧ r = some x ∧ mRt rt x ∧ σ = τ
  | (31, _, _, _) => st = [] ∧ r = none ∧ rt = none ∧ σ = τ
  | (32, _, _, _) => ∃ (n dp sp : Int32) (d s kd n0 n1 : Nat) (st' : List Value), st = .int n :: .int dp :: .ref d :: .int sp :: .ref s :: st' ∧ σ.2.1[s]? = some (kd, n0) ∧ σ.2.1[d]? = some (kd, n1) ∧ 20 ≤ kd ∧ kd ≤ 22 ∧ ¬ sp < 0 ∧ ¬ dp < 0 ∧ ¬ n < 0 ∧ sp.toNatClampNeg + n.toNatClampNeg ≤ n0 ∧ dp.toNatClampNeg + n.toNatClampNeg ≤ n1 ∧ (∀ i, i < n.toNatClampNeg → fits (mTy kd) (.int (σ.2.2.2.1 s (sp.toNatClampNeg + i))) = true) ∧ mSz st' ≤ 8 ∧ kk L st' (mProw σ d (va_cpy (σ.2.2.2.1 s) (σ.2.2.2.1 d) sp.toNatClampNeg dp.toNatClampNeg n.toNatClampNeg))
  | (33, _, _, _) => ∃ (x y : Int32) (st' : List Value), st = .int y :: .int x :: st' ∧ mSz st' ≤ 8 ∧ mLe σ τ ∧ kk L (.int (if y < x then y else x) :: st') σ
  | (34, _, _, _) => ∃ (o : Nat) (st' : List Value), st = .ref o :: st' ∧ mSz st' ≤ 8 ∧ kk L st' σ
  | (35, _, _, c :: _) => mOut σ.2.1.length (σ.2.1.length + 1) L st ∧ mRfo σ ∧ mLe (mNew σ c 0 (mFt.getD c []).length) τ ∧ kk L (.ref σ.2.1.length :: st) (mNew σ c 0 (mFt.getD c []).length)
  | (36, _, _, t :: _) => ∃ (n : Int32) (st' : List Value), st = .int n :: st' ∧ mOut σ.2.1.length (σ.2.1.length + 1) L st' ∧ mRfo σ ∧ ¬ n < 0 ∧ n.toNatClampNeg ≤ 65536 ∧ mLe (mNew σ (20 + t) n.toNatClampNeg n.toNatClampNeg) τ ∧ kk L (.ref σ.2.1.length :: st') (mNew σ (20 + t) n.toNatClampNeg n.toNatClampNeg)
  | (37, _, _, t :: _) => ∃ (n : Int32) (st' : List Value), st = .int n :: st' ∧ mOut σ.2.1.length (σ.2.1.length + 1) L st' ∧ mRfo σ ∧ ¬ n < 0 ∧ n.toNatClampNeg ≤ 65536 ∧ mLe (mNew σ (20 + t) n.toNatClampNeg n.toNatClampNeg) τ ∧ kk L (.ref σ.2.1.length :: st') (mNew σ (20 + t) n.toNatClampNeg n.toNatClampNeg)
  | (38, _, _, i :: _) => i < 6 ∧ mLe σ τ ∧ kk L (.ref (1000000 + i) :: st) σ
  | (39, _, _, _) => ∃ (i : Nat) (st' : List Value), st = .ref (1000000 + i) :: st' ∧ i < 6 ∧ mSz st' ≤ 8 ∧ mLe σ τ ∧ call 303 [] σ none σ ∧ kk L (.int (nI (mSl.getD i 0)) :: st') σ
  | (40, _, _, _) => ∃ (i : Nat) (k : Int32) (st' : List Value), st = .int k :: .ref (1000000 + i) :: st' ∧ i < 6 ∧ vp_in k (mSl.getD i 0) ∧ mSz st' ≤ 8 ∧ mLe σ τ ∧ call 303 [] σ none σ ∧ kk L (.int (mSc i k.toNatClampNeg) :: st') σ
  | _ => False
def mExb (call : Nat → List Value → mMH → Option Int32 → mMH → Prop) (rt : Option FieldType) (r : Option Int32) (τ : mMH) (K : Nat → mL → List Value → mMH → Prop) : List mRI → mL → List Value → mMH → Prop
  | [], _, _, _ => False
  | ri :: rest, L, st, σ => mStp call rt r τ K ri L st σ (fun L' st' σ' => mExb call rt r τ K rest L' st' σ')
def mWp (call : Nat → List Value → mMH → Option Int32 → mMH → Prop) (cd : List mBk) (rt : Option FieldType) (r : Option Int32) (τ : mMH) : Nat → Nat → mL → List Value → mMH → Prop
  | 0, _, _, _, _ => False
  | n + 1, b, L, st, σ => mExb call rt r τ (mWp call cd rt r τ n) (cd.getD b (0, [])).2 L st σ
def mArgs (as : List Value) (nL : Nat) : mL := as.map some ++ List.replicate (nL - as.length) none
def mCall : Nat → Nat → List Value → mMH → Option Int32 → mMH → Prop
  | 0, _, _, _, _, _ => False
  | d + 1, j, as, σ, r, τ => (303 ≤ j ∧ j ≤ 300 + d) ∨ ((∀ v ∈ as, v.category = 1) ∧ as.length ≤ (mt j).2.2.2.1 ∧ mLe σ τ ∧ ∃ n, mWp (mCall d) (mt j).2.2.2.2.2.2 (mt j).2.2.2.2.1 r τ n 0 (mArgs as (mt j).2.2.2.1) [] σ)
