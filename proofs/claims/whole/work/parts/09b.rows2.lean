/-! the same over the rows of longs -/
abbrev mFl : Type := Nat → Int64
/-- some objects' rows laid over a heap -/
def mEw (v : mX) : List (Nat × mFl) → mX
  | [] => v
  | (o, f) :: r => va_up (mEw v r) o f
def mNdw (env : List (Nat × mFl)) : Prop := (env.map Prod.fst).Nodup
theorem mEw_at {v : mX} : ∀ {env : List (Nat × mFl)} (q : Nat) {o : Nat} {f : mFl}, mNdw env → env[q]? = some (o, f) → mEw v env o = f
  | [], _, _, _, _, h => by cases h
  | (a, g) :: r, 0, o, f, _, h => by
    cases h
    exact mup_eq
  | (a, g) :: r, q + 1, o, f, hn, h => by
    have hn := List.nodup_cons.mp hn
    have h1 := mEw_at (v := v) q hn.2 h
    have hne : o ≠ a := fun e => hn.1 (e ▸ List.mem_map.mpr ⟨(o, f), List.mem_of_getElem? h, rfl⟩)
    show va_up (mEw v r) a g o = f
    rw [mup_ne hne]
    exact h1
theorem mEw_set {v : mX} : ∀ {env : List (Nat × mFl)} (q : Nat) {o : Nat} {f g : mFl}, mNdw env → env[q]? = some (o, f) → va_up (mEw v env) o g = mEw v (env.set q (o, g))
  | [], _, _, _, _, _, h => by cases h
  | (a, e) :: r, 0, o, f, g, _, h => by
    cases h
    exact mup_twice
  | (a, e) :: r, q + 1, o, f, g, hn, h => by
    have hn := List.nodup_cons.mp hn
    have h1 := mEw_set (v := v) (g := g) q hn.2 h
    have hne : a ≠ o := fun e => hn.1 (e ▸ List.mem_map.mpr ⟨(o, f), List.mem_of_getElem? h, rfl⟩)
    show va_up (va_up (mEw v r) a e) o g = va_up (mEw v (r.set q (o, g))) a e
    rw [mup_comm hne, h1]
/-- rows that stand there already, laid once more -/
theorem mEw_id {v : mX} : ∀ (envc : List (Nat × mFl)), (∀ x ∈ envc, v x.1 = x.2) → mEw v envc = v
  | [], _ => rfl
  | (o, f) :: r, h => by
    show va_up (mEw v r) o f = v
    have e : v o = f := h (o, f) List.mem_cons_self
    rw [mEw_id r (fun x hx => h x (List.mem_cons_of_mem _ hx)), ← e]
    exact mup_self
def mPut2w (env : List (Nat × mFl)) : List (Nat × (Nat × mFl)) → List (Nat × mFl)
  | [] => env
  | (q, x) :: r => (mPut2w env r).set q x
theorem mPut2w_keys {env : List (Nat × mFl)} : ∀ (l : List (Nat × (Nat × mFl))), (∀ x ∈ l, (env.map Prod.fst)[x.1]? = some x.2.1) → (mPut2w env l).map Prod.fst = env.map Prod.fst
  | [], _ => rfl
  | (q, x) :: r, h => by
    have ih := mPut2w_keys r (fun y hy => h y (List.mem_cons_of_mem _ hy))
    show ((mPut2w env r).set q x).map Prod.fst = _
    rw [List.map_set, ih]
    have h0 := h (q, x) List.mem_cons_self
    apply List.ext_getElem?
    intro i
    by_cases hi : q = i
    · subst hi
      rw [List.getElem?_set_self (List.getElem?_eq_some_iff.mp h0).1, h0]
    · rw [List.getElem?_set_ne hi]
theorem mEw_put2 {v : mX} {env : List (Nat × mFl)} (hn : mNdw env) : ∀ (l : List (Nat × (Nat × mFl))), (∀ x ∈ l, (env.map Prod.fst)[x.1]? = some x.2.1) → mEw (mEw v env) (l.map Prod.snd) = mEw v (mPut2w env l)
  | [], _ => rfl
  | (q, (o, f)) :: r, h => by
    have hr : ∀ x ∈ r, (env.map Prod.fst)[x.1]? = some x.2.1 := fun y hy => h y (List.mem_cons_of_mem _ hy)
    have ih := mEw_put2 (v := v) hn r hr
    have hk := mPut2w_keys r hr
    have h0 : (env.map Prod.fst)[q]? = some o := h (q, (o, f)) List.mem_cons_self
    rw [← hk, List.getElem?_map] at h0
    obtain ⟨⟨o', g⟩, h1, h2⟩ := Option.map_eq_some_iff.mp h0
    have h2 : o' = o := h2
    subst h2
    show va_up (mEw (mEw v env) (r.map Prod.snd)) o' f = mEw v ((mPut2w env r).set q (o', f))
    rw [ih]
    exact mEw_set q (by unfold mNdw; rw [hk]; exact hn) h1
section ROWS2
variable {d : Nat} {cd : List mBk} {rt : Option FieldType} {rest : List mRI} {L : mL} {st : List Value} {B : mB} {v : mV} {w : mX} {Q : Option Int32 → mMH → Prop} {n : Nat} {c : Int32} {ps : List Nat}
theorem r_getl {env : List (Nat × mFl)} {o ci k : Nat} {f : mFl} {x : Int64} (q : Nat) (hn : mNdw env) (he : env[q]? = some (o, f)) (hk : B.2.1[o]? = some (ci, 0)) (hx : f k = x) (kk : RB d cd rt rest L (.long x :: st) (mH B v (mEw w env)) Q) : RB d cd rt ((24, n, c, ci :: k :: 3 :: ps) :: rest) L (.ref o :: st) (mH B v (mEw w env)) Q := by
  subst hx
  refine r_of (fun _ _ _ h => ⟨o, st, rfl, hk, ?_⟩) kk
  rw [show mFv (mH B v (mEw w env)) o k 3 = .long (f k) from congrArg (fun g : mFl => Value.long (g k)) (mEw_at q hn he)]
  exact h
theorem r_aldl {env : List (Nat × mFl)} {o l : Nat} {f : mFl} {i : Int32} (q k : Nat) (hn : mNdw env) (he : env[q]? = some (o, f)) (hk : B.2.1[o]? = some (23, l)) (hi : vp_in i l) (hik : i.toNatClampNeg = k) {x : Int64} (hx : f k = x) (kk : RB d cd rt rest L (.long x :: st) (mH B v (mEw w env)) Q) : RB d cd rt ((26, n, c, 3 :: ps) :: rest) L (.int i :: .ref o :: st) (mH B v (mEw w env)) Q := by
  subst hik; subst hx
  refine r_of (fun _ _ _ h => ⟨i, o, 23, l, st, rfl, hk, rfl, hi, ?_⟩) kk
  rw [show mAv (mH B v (mEw w env)) o i.toNatClampNeg 3 = .long (f i.toNatClampNeg) from congrArg (fun g : mFl => Value.long (g i.toNatClampNeg)) (mEw_at q hn he)]
  exact h
theorem r_putl {env env' : List (Nat × mFl)} {o ci k : Nat} {f : mFl} {x : Int64} (q : Nat) (hn : mNdw env) (he : env[q]? = some (o, f)) (hs : env.set q (o, vp_updL f k x) = env') (hk : B.2.1[o]? = some (ci, 0)) (kk : RB d cd rt rest L st (mH B v (mEw w env')) Q) : RB d cd rt ((25, n, c, ci :: k :: 3 :: ps) :: rest) L (.long x :: .ref o :: st) (mH B v (mEw w env)) Q := by
  refine r_ofH (σ' := mH B v (mEw w env')) rfl rfl (fun _ _ _ h => ⟨o, .long x, st, rfl, hk, x, rfl, ?_⟩) kk
  have e : mPw (mH B v (mEw w env)) o k x = mH B v (mEw w env') := by
    show (B.1, B.2.1, B.2.2, v, va_up (mEw w env) o (vp_updL (mEw w env o) k x)) = _
    rw [mEw_at q hn he, mEw_set q hn he, hs]
  rw [e]
  exact h
theorem r_astl {env env' : List (Nat × mFl)} {o l : Nat} {f : mFl} {i : Int32} {x : Int64} (q k : Nat) (hn : mNdw env) (he : env[q]? = some (o, f)) (hk : B.2.1[o]? = some (23, l)) (hi : vp_in i l) (hik : i.toNatClampNeg = k) (hs : env.set q (o, vp_updL f k x) = env') (kk : RB d cd rt rest L st (mH B v (mEw w env')) Q) : RB d cd rt ((27, n, c, 3 :: ps) :: rest) L (.long x :: .int i :: .ref o :: st) (mH B v (mEw w env)) Q := by
  subst hik
  refine r_ofH (σ' := mH B v (mEw w env')) rfl rfl (fun r τ K h => ?_) kk
  have e : mPw (mH B v (mEw w env)) o i.toNatClampNeg x = mH B v (mEw w env') := by
    show (B.1, B.2.1, B.2.2, v, va_up (mEw w env) o (vp_updL (mEw w env o) i.toNatClampNeg x)) = _
    rw [mEw_at q hn he, mEw_set q hn he, hs]
  rw [← e] at h
  exact ⟨i, o, l, x, st, rfl, hk, hi, h⟩
theorem mE_call {v : mV} {env env' envc envc' : List (Nat × mF)} (us : List Nat) (hn : mNd env) (hc : us.map (fun i => env[i]?) = envc.map some) (hc' : us.map (fun i => (env.map Prod.fst)[i]?) = envc'.map (fun x => some x.1)) (hp : mPut2 env (us.zip envc') = env') : mE (mE v env) envc = mE v env ∧ mE (mE v env) envc' = mE v env' := by
  refine ⟨mE_id _ (fun x hx => ?_), ?_⟩
  · have h3 : some x ∈ us.map (fun i => env[i]?) := by rw [hc]; exact List.mem_map_of_mem hx
    obtain ⟨i, -, hi⟩ := List.mem_map.mp h3
    exact mE_at i hn hi
  · have hlen : us.length = envc'.length := by
      have := congrArg List.length hc'
      simpa using this
    have hz2 : (us.zip envc').map Prod.snd = envc' := by
      rw [List.map_snd_zip (by omega)]
    rw [← hp, ← mE_put2 hn _ (fun x hx => ?_), hz2]
    obtain ⟨k, hk1⟩ := List.getElem?_of_mem hx
    rw [List.getElem?_zip_eq_some] at hk1
    have h4 := congrArg (fun l => l[k]?) hc'
    simp only [List.getElem?_map, hk1.1, hk1.2, Option.map_some] at h4
    simpa using h4
theorem mEw_call {v : mX} {env env' envc envc' : List (Nat × mFl)} (us : List Nat) (hn : mNdw env) (hc : us.map (fun i => env[i]?) = envc.map some) (hc' : us.map (fun i => (env.map Prod.fst)[i]?) = envc'.map (fun x => some x.1)) (hp : mPut2w env (us.zip envc') = env') : mEw (mEw v env) envc = mEw v env ∧ mEw (mEw v env) envc' = mEw v env' := by
  refine ⟨mEw_id _ (fun x hx => ?_), ?_⟩
  · have h3 : some x ∈ us.map (fun i => env[i]?) := by rw [hc]; exact List.mem_map_of_mem hx
    obtain ⟨i, -, hi⟩ := List.mem_map.mp h3
    exact mEw_at i hn hi
  · have hlen : us.length = envc'.length := by
      have := congrArg List.length hc'
      simpa using this
    have hz2 : (us.zip envc').map Prod.snd = envc' := by
      rw [List.map_snd_zip (by omega)]
    rw [← hp, ← mEw_put2 hn _ (fun x hx => ?_), hz2]
    obtain ⟨k, hk1⟩ := List.getElem?_of_mem hx
    rw [List.getElem?_zip_eq_some] at hk1
    have h4 := congrArg (fun l => l[k]?) hc'
    simp only [List.getElem?_map, hk1.1, hk1.2, Option.map_some] at h4
    simpa using h4
/-- a call that touches longs too -/
theorem r_callW {env env' envc envc' : List (Nat × mF)} {el el' elc elc' : List (Nat × mFl)} {j na ci o : Nat} {as : List Value} {stk : List Value} {rv : Option Int32} (us ul : List Nat) (hn : mNd env) (hnl : mNdw el) (e : stk = (.ref o :: as).reverse ++ st) (hl : as.length = na) (hs : mSz st ≤ 8) (hk0 : B.2.1[o]? = some (ci, 0)) (hc : us.map (fun i => env[i]?) = envc.map some) (hc' : us.map (fun i => (env.map Prod.fst)[i]?) = envc'.map (fun x => some x.1)) (hp : mPut2 env (us.zip envc') = env')
    (hcl : ul.map (fun i => el[i]?) = elc.map some) (hcl' : ul.map (fun i => (el.map Prod.fst)[i]?) = elc'.map (fun x => some x.1)) (hpl : mPut2w el (ul.zip elc') = el')
    (hk : ∀ Q' : Option Int32 → mMH → Prop, Q' rv (mH B (mE (mE v env) envc') (mEw (mEw w el) elc')) → CQ d j (.ref o :: as) (mH B (mE (mE v env) envc) (mEw (mEw w el) elc)) Q') (kk : RB d cd rt rest L ((rv.map Value.int).toList ++ st) (mH B (mE v env') (mEw w el')) Q) : RB d cd rt ((29, n, c, j :: na :: 0 :: ci :: ps) :: rest) L stk (mH B (mE v env) (mEw w el)) Q := by
  obtain ⟨e1, e2⟩ := mE_call (v := v) us hn hc hc' hp
  obtain ⟨e3, e4⟩ := mEw_call (v := w) ul hnl hcl hcl' hpl
  have h5 := hk (fun r' σ' => RB d cd rt rest L ((r'.map Value.int).toList ++ st) σ' Q) (by rw [e2, e4]; exact kk)
  rw [e1, e3] at h5
  exact r_call0 e (by rw [List.length_cons, hl]; rfl) hs (fun _ => ⟨o, as, rfl, hk0⟩) (fun h => by rcases h with h | h <;> cases h) h5
end ROWS2
