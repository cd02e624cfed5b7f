/-! calls that change parts; texts -/
/-- a call that changes what parts an object has -/
theorem r_callB {d : Nat} {cd : List mBk} {rt : Option FieldType} {rest : List mRI} {L : mL} {st : List Value} {B : mB} (B1 : mB) {v : mV} {w : mX} {Q : Option Int32 → mMH → Prop} {n : Nat} {c : Int32} {ps : List Nat} {env env' envc envc' : List (Nat × mF)} {j na ci o : Nat} {as : List Value} {stk : List Value} {rv : Option Int32} (us : List Nat) (hn : mNd env) (e : stk = (.ref o :: as).reverse ++ st) (hl : as.length = na) (hs : mSz st ≤ 8) (hk0 : B.2.1[o]? = some (ci, 0)) (hc : us.map (fun i => env[i]?) = envc.map some) (hc' : us.map (fun i => (env.map Prod.fst)[i]?) = envc'.map (fun x => some x.1)) (hp : mPut2 env (us.zip envc') = env')
    (hk : ∀ Q' : Option Int32 → mMH → Prop, Q' rv (mH B1 (mE (mE v env) envc') w) → CQ d j (.ref o :: as) (mH B (mE (mE v env) envc) w) Q') (kk : RB d cd rt rest L ((rv.map Value.int).toList ++ st) (mH B1 (mE v env') w) Q) : RB d cd rt ((29, n, c, j :: na :: 0 :: ci :: ps) :: rest) L stk (mH B (mE v env) w) Q := by
  obtain ⟨e1, e2⟩ := mE_call (v := v) us hn hc hc' hp
  have h5 := hk (fun r' σ' => RB d cd rt rest L ((r'.map Value.int).toList ++ st) σ' Q) (by rw [e2]; exact kk)
  rw [e1] at h5
  exact r_call0 e (by rw [List.length_cons, hl]; rfl) hs (fun _ => ⟨o, as, rfl, hk0⟩) (fun h => by rcases h with h | h <;> cases h) h5
theorem r_callMB {d : Nat} {cd : List mBk} {rt : Option FieldType} {rest : List mRI} {L : mL} {st : List Value} {B : mB} (B1 : mB) {v : mV} {w : mX} {Q : Option Int32 → mMH → Prop} {n : Nat} {c : Int32} {ps : List Nat} {env env' envc envc' : List (Nat × mF)} {j na ci o : Nat} {as : List Value} {stk : List Value} {rv : Option Int32} (m : List Bool) (hn : mNd env) (e : stk = (.ref o :: as).reverse ++ st) (hl : as.length = na) (hs : mSz st ≤ 8) (hk0 : B.2.1[o]? = some (ci, 0)) (hc : mPick m env = envc) (ks : List Nat) (hc1 : envc.map Prod.fst = ks) (hc2 : envc'.map Prod.fst = ks) (hp : mMerge m env envc' = env')
    (hk : ∀ Q' : Option Int32 → mMH → Prop, Q' rv (mH B1 (mE (mE v env) envc') w) → CQ d j (.ref o :: as) (mH B (mE (mE v env) envc) w) Q') (kk : RB d cd rt rest L ((rv.map Value.int).toList ++ st) (mH B1 (mE v env') w) Q) : RB d cd rt ((29, n, c, j :: na :: 0 :: ci :: ps) :: rest) L stk (mH B (mE v env) w) Q := by
  subst hc
  have e1 : mE (mE v env) (mPick m env) = mE v env := by rw [mE_mask m env _ hn rfl, mMerge_pick]
  have e2 : mE (mE v env) envc' = mE v env' := by rw [mE_mask m env _ hn (hc1.trans hc2.symm), hp]
  have h5 := hk (fun r' σ' => RB d cd rt rest L ((r'.map Value.int).toList ++ st) σ' Q) (by rw [e2]; exact kk)
  rw [e1] at h5
  exact r_call0 e (by rw [List.length_cons, hl]; rfl) hs (fun _ => ⟨o, as, rfl, hk0⟩) (fun h => by rcases h with h | h <;> cases h) h5
/-! texts -/
theorem mCall_at {d : Nat} {σ : mMH} (h : 4 ≤ d) : mCall d 303 [] σ none σ := by
  obtain ⟨k, rfl⟩ : ∃ k, d = k + 1 := ⟨d - 1, by omega⟩
  exact Or.inl ⟨Nat.le_refl _, by omega⟩
section TEXTS
variable {d : Nat} {cd : List mBk} {rt : Option FieldType} {rest : List mRI} {L : mL} {st : List Value} {σ : mMH} {Q : Option Int32 → mMH → Prop} {n : Nat} {c : Int32} {ps : List Nat}
theorem r_of9 {is : List mRI} {L' : mL} {st' : List Value} (h : ∀ r τ K, mLe σ τ → mExb (mCall d) rt r τ K rest L' st' σ → mExb (mCall d) rt r τ K is L st σ) (k : RB d cd rt rest L' st' σ Q) : RB d cd rt is L st σ Q := by
  intro hz
  obtain ⟨r, τ, ⟨n, h1⟩, h2, h3, h4⟩ := k hz
  exact ⟨r, τ, ⟨n, h _ _ _ ⟨Nat.le_of_eq h2.symm, by rw [h3]; exact Nat.le_refl _, by rw [h3]; exact hz⟩ h1⟩, h2, h3, h4⟩
theorem r_ldc {i : Nat} (hi : i < 6) (k : RB d cd rt rest L (.ref (1000000 + i) :: st) σ Q) : RB d cd rt ((38, n, c, i :: ps) :: rest) L st σ Q := r_of9 (fun _ _ _ hl h => ⟨hi, hl, h⟩) k
theorem r_slen {i : Nat} (hi : i < 6) (hs : mSz st ≤ 8) (hd : 4 ≤ d) (k : RB d cd rt rest L (.int (nI (mSl.getD i 0)) :: st) σ Q) : RB d cd rt ((39, n, c, ps) :: rest) L (.ref (1000000 + i) :: st) σ Q := r_of9 (fun _ _ _ hl h => ⟨i, st, rfl, hi, hs, hl, mCall_at hd, h⟩) k
theorem r_schr {i : Nat} {z : Int32} (hi : i < 6) (hz : vp_in z (mSl.getD i 0)) (hs : mSz st ≤ 8) (hd : 4 ≤ d) (k : RB d cd rt rest L (.int (mSc i z.toNatClampNeg) :: st) σ Q) : RB d cd rt ((40, n, c, ps) :: rest) L (.int z :: .ref (1000000 + i) :: st) σ Q := r_of9 (fun _ _ _ hl h => ⟨i, z, st, rfl, hi, hz, hs, hl, mCall_at hd, h⟩) k
end TEXTS
