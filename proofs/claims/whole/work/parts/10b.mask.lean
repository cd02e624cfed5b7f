/-! a call whose objects are some of the caller's, in the same order -/
def mPick {α : Type} : List Bool → List α → List α
  | true :: m, x :: e => x :: mPick m e
  | false :: m, _ :: e => mPick m e
  | _, _ => []
def mMerge {α : Type} : List Bool → List α → List α → List α
  | true :: m, _ :: e, y :: s => y :: mMerge m e s
  | false :: m, x :: e, s => x :: mMerge m e s
  | _, e, _ => e
theorem mE_upc {v : mV} {a : Nat} {f : mF} : ∀ (s : List (Nat × mF)), a ∉ s.map Prod.fst → mE (va_up v a f) s = va_up (mE v s) a f
  | [], _ => rfl
  | (b, g) :: s, h => by
    have h1 : b ≠ a := fun e => h (by rw [e]; exact List.mem_cons_self)
    have h2 : a ∉ s.map Prod.fst := fun e => h (List.mem_cons_of_mem _ e)
    show va_up (mE (va_up v a f) s) b g = va_up (va_up (mE v s) b g) a f
    rw [mE_upc s h2, mup_comm (Ne.symm h1)]
theorem mPick_sub {α : Type} : ∀ (m : List Bool) (e : List α) (x : α), x ∈ mPick m e → x ∈ e
  | [], e, x, h => by cases e <;> cases h
  | true :: m, [], x, h => by cases h
  | false :: m, [], x, h => by cases h
  | true :: m, y :: e, x, h => by
    rcases List.mem_cons.mp h with h | h
    · rw [h]; exact List.mem_cons_self
    · exact List.mem_cons_of_mem _ (mPick_sub m e x h)
  | false :: m, y :: e, x, h => List.mem_cons_of_mem _ (mPick_sub m e x h)
theorem mE_mask {v : mV} : ∀ (m : List Bool) (env s : List (Nat × mF)), mNd env → (mPick m env).map Prod.fst = s.map Prod.fst → mE (mE v env) s = mE v (mMerge m env s)
  | [], env, s, _, h => by
    have hs : s = [] := by
      have h1 : mPick [] env = ([] : List (Nat × mF)) := by cases env <;> rfl
      rw [h1] at h
      exact List.map_eq_nil_iff.mp h.symm
    subst hs
    cases env <;> rfl
  | true :: m, [], s, _, h => by
    have hs : s = [] := List.map_eq_nil_iff.mp h.symm
    subst hs
    rfl
  | false :: m, [], s, _, h => by
    have hs : s = [] := List.map_eq_nil_iff.mp h.symm
    subst hs
    rfl
  | true :: m, (a, f) :: env, s, hn, h => by
    have hn := List.nodup_cons.mp hn
    cases s with
    | nil => cases h
    | cons y s =>
      obtain ⟨b, g⟩ := y
      have h1 := List.cons.inj h
      have hb : a = b := h1.1
      subst hb
      have ha : a ∉ s.map Prod.fst := by
        rw [← h1.2]
        intro hm
        obtain ⟨x, hx, hxa⟩ := List.mem_map.mp hm
        exact hn.1 (List.mem_map.mpr ⟨x, mPick_sub m env x hx, hxa⟩)
      show va_up (mE (va_up (mE v env) a f) s) a g = va_up (mE v (mMerge m env s)) a g
      rw [mE_upc s ha, mE_mask m env s hn.2 h1.2, mup_twice]
  | false :: m, (a, f) :: env, s, hn, h => by
    have hn := List.nodup_cons.mp hn
    have ha : a ∉ s.map Prod.fst := by
      rw [← h]
      intro hm
      obtain ⟨x, hx, hxa⟩ := List.mem_map.mp hm
      exact hn.1 (List.mem_map.mpr ⟨x, mPick_sub m env x hx, hxa⟩)
    have h2 : mE (mE v ((a, f) :: env)) s = va_up (mE v (mMerge m env s)) a f := by
      show mE (va_up (mE v env) a f) s = _
      rw [mE_upc s ha, mE_mask m env s hn.2 h]
    rw [h2]
    cases s <;> rfl
theorem mMerge_pick {α : Type} : ∀ (m : List Bool) (e : List α), mMerge m e (mPick m e) = e
  | [], e => by cases e <;> rfl
  | true :: m, [] => rfl
  | false :: m, [] => rfl
  | true :: m, x :: e => congrArg (x :: ·) (mMerge_pick m e)
  | false :: m, x :: e => by
    have h := mMerge_pick m e
    show mMerge (false :: m) (x :: e) (mPick m e) = x :: e
    have h1 : mMerge (false :: m) (x :: e) (mPick m e) = x :: mMerge m e (mPick m e) := by cases mPick m e <;> rfl
    rw [h1, h]
section MASK
variable {d : Nat} {cd : List mBk} {rt : Option FieldType} {rest : List mRI} {L : mL} {st : List Value} {B : mB} {v : mV} {w : mX} {Q : Option Int32 → mMH → Prop} {n : Nat} {c : Int32} {ps : List Nat}
theorem r_callM {env env' envc envc' : List (Nat × mF)} {j na ci o : Nat} {as : List Value} {stk : List Value} {rv : Option Int32} (m : List Bool) (hn : mNd env) (e : stk = (.ref o :: as).reverse ++ st) (hl : as.length = na) (hs : mSz st ≤ 8) (hk0 : B.2.1[o]? = some (ci, 0)) (hc : mPick m env = envc) (ks : List Nat) (hc1 : envc.map Prod.fst = ks) (hc2 : envc'.map Prod.fst = ks) (hp : mMerge m env envc' = env')
    (hk : ∀ Q' : Option Int32 → mMH → Prop, Q' rv (mH B (mE (mE v env) envc') w) → CQ d j (.ref o :: as) (mH B (mE (mE v env) envc) w) Q') (kk : RB d cd rt rest L ((rv.map Value.int).toList ++ st) (mH B (mE v env') w) Q) : RB d cd rt ((29, n, c, j :: na :: 0 :: ci :: ps) :: rest) L stk (mH B (mE v env) w) Q := by
  subst hc
  have e1 : mE (mE v env) (mPick m env) = mE v env := by rw [mE_mask m env _ hn rfl, mMerge_pick]
  have e2 : mE (mE v env) envc' = mE v env' := by rw [mE_mask m env _ hn (hc1.trans hc2.symm), hp]
  have h5 := hk (fun r' σ' => RB d cd rt rest L ((r'.map Value.int).toList ++ st) σ' Q) (by rw [e2]; exact kk)
  rw [e1] at h5
  exact r_call0 e (by rw [List.length_cons, hl]; rfl) hs (fun _ => ⟨o, as, rfl, hk0⟩) (fun h => by rcases h with h | h <;> cases h) h5
end MASK
/-- names of objects that stand apart -/
theorem nd1 (w : Nat) (l : List Nat) (h : l.Nodup) : (l.map (fun k => w + k)).Nodup := List.Pairwise.map _ (fun a b hab e => hab (by omega)) h
theorem nd2 (w w2 m m2 : Nat) (l l2 : List Nat) (h : l.Nodup) (h2 : l2.Nodup) (hb : ∀ k ∈ l, k < m) (hb2 : ∀ k ∈ l2, k < m2) (hs : w + m ≤ w2 ∨ w2 + m2 ≤ w) : (l.map (fun k => w + k) ++ l2.map (fun k => w2 + k)).Nodup := by
  refine List.nodup_append.mpr ⟨nd1 w l h, nd1 w2 l2 h2, ?_⟩
  intro x hx y hy
  obtain ⟨k, hk, rfl⟩ := List.mem_map.mp hx
  obtain ⟨k2, hk2, rfl⟩ := List.mem_map.mp hy
  have h3 := hb k hk
  have h4 := hb2 k2 hk2
  show ¬ (w + k = w2 + k2)
  omega
theorem nd3 (w w2 w3 m m2 m3 : Nat) (l l2 l3 : List Nat) (h : l.Nodup) (h2 : l2.Nodup) (h3 : l3.Nodup) (hb : ∀ k ∈ l, k < m) (hb2 : ∀ k ∈ l2, k < m2) (hb3 : ∀ k ∈ l3, k < m3) (hs : w + m ≤ w2) (hs2 : w2 + m2 ≤ w3) : (l.map (fun k => w + k) ++ (l2.map (fun k => w2 + k) ++ l3.map (fun k => w3 + k))).Nodup := by
  refine List.nodup_append.mpr ⟨nd1 w l h, nd2 w2 w3 m2 m3 l2 l3 h2 h3 hb2 hb3 (Or.inl hs2), ?_⟩
  intro x hx y hy
  obtain ⟨k, hk, rfl⟩ := List.mem_map.mp hx
  have h4 := hb k hk
  rcases List.mem_append.mp hy with hy | hy
  · obtain ⟨k2, hk2, rfl⟩ := List.mem_map.mp hy
    show ¬ (w + k = w2 + k2)
    omega
  · obtain ⟨k2, hk2, rfl⟩ := List.mem_map.mp hy
    show ¬ (w + k = w3 + k2)
    omega
def isRead (B : mB) (ro tp pg : Nat) : Prop := B.2.1[ro]? = some (5, 0) ∧ B.2.1[ro + 1]? = some (20, 43) ∧ B.2.1[ro + 17]? = some (20, 112) ∧ B.2.1[ro + 18]? = some (20, 112) ∧ B.2.1[ro + 19]? = some (20, 112) ∧ B.2.1[tp]? = some (21, 700) ∧ isPrg B pg ∧ B.2.2 ro 0 = some (ro + 1) ∧ B.2.2 ro 1 = some tp ∧ B.2.2 ro 3 = some pg ∧ B.2.2 ro 11 = some (ro + 17) ∧ B.2.2 ro 12 = some (ro + 18) ∧ B.2.2 ro 13 = some (ro + 19)
theorem r_putr {d : Nat} {cd : List mBk} {rt : Option FieldType} {rest : List mRI} {L : mL} {st : List Value} {B B' : mB} {v : mV} {w : mX} {Q : Option Int32 → mMH → Prop} {n : Nat} {c : Int32} {ps : List Nat} {o ci k q : Nat} (hk : B.2.1[o]? = some (ci, 0)) (e : (B.1, B.2.1, va_up B.2.2 o (va_up (B.2.2 o) k (some q))) = B') (kk : RB d cd rt rest L st (mH B' v w) Q) : RB d cd rt ((25, n, c, ci :: k :: 4 :: ps) :: rest) L (.ref q :: .ref o :: st) (mH B v w) Q := by
  subst e
  exact r_ofH (σ' := mH (B.1, B.2.1, va_up B.2.2 o (va_up (B.2.2 o) k (some q))) v w) rfl rfl (fun _ _ _ h => ⟨o, .ref q, st, rfl, hk, some q, rfl, h⟩) kk
def isHist (B : mB) (ho : Nat) : Prop := B.2.1[ho]? = some (1, 0) ∧ B.2.1[ho + 1]? = some (26, 8) ∧ B.2.2 ho 2 = some (ho + 1)
/-- many groups of names -/
def ndGo (gs : List (Nat × Nat × List Nat)) : Prop := (gs.flatMap (fun g => g.2.2.map (fun k => g.1 + k))).Nodup ∧ ∀ g ∈ gs, ∀ k ∈ g.2.2, k < g.2.1
theorem ndG_nil : ndGo [] := ⟨List.nodup_nil, fun _ h => absurd h List.not_mem_nil⟩
theorem ndG_cons (b m : Nat) (l : List Nat) (gs : List (Nat × Nat × List Nat)) (h : l.Nodup ∧ ∀ k ∈ l, k < m) (hd : ∀ g ∈ gs, b + m ≤ g.1 ∨ g.1 + g.2.1 ≤ b) (ht : ndGo gs) : ndGo ((b, m, l) :: gs) := by
  refine ⟨?_, List.forall_mem_cons.mpr ⟨h.2, ht.2⟩⟩
  rw [List.flatMap_cons]
  refine List.nodup_append.mpr ⟨nd1 b l h.1, ht.1, ?_⟩
  intro x hx y hy
  obtain ⟨k, hk, rfl⟩ := List.mem_map.mp hx
  obtain ⟨g, hg, hy⟩ := List.mem_flatMap.mp hy
  obtain ⟨k2, hk2, rfl⟩ := List.mem_map.mp hy
  have h3 := h.2 k hk
  have h4 := ht.2 g hg k2 hk2
  have h5 := hd g hg
  show ¬ (b + k = g.1 + k2)
  omega
