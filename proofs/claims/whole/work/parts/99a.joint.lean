/-! JOINT: the two sides' rows as one heap's; what holds between two calls (GENERATED, wip/gen/p/99a.py) -/
def wk (c : Nat) : Nat := c + (if 3 ≤ c then 1 else 0) + (if 11 ≤ c then 1 else 0) + (if 21 ≤ c then 1 else 0)
/-- the rows of the World that stands at b -/
def wrO (v : mV) (b : Nat) : Nat → mF := fun c => v (b + wk c)
def bE (b : Nat) (l : List Nat) (C : Nat → mF) : List (Nat × mF) := l.map (fun c => (b + wk c, C c))
def l19 : List Nat := [0, 1, 2, 4, 6, 7, 8, 9, 10, 11, 12, 14, 16, 17, 18, 19, 20, 21, 22]
def l23 : List Nat := [0, 1, 2, 3, 4, 5, 6, 7, 8, 9, 10, 11, 12, 13, 14, 15, 16, 17, 18, 19, 20, 21, 22]
theorem wk_inj {a b : Nat} (h : wk a = wk b) : a = b := by
  unfold wk at h
  repeat' split at h
  all_goals omega
theorem wk_lt {a : Nat} (h : a < 23) : wk a < 26 := by
  unfold wk
  repeat' split
  all_goals omega
theorem bE_key {b : Nat} {l : List Nat} {C : Nat → mF} {x : Nat × mF} (hl : ∀ c, c ∈ l → c < 23) (h : x ∈ bE b l C) : b ≤ x.1 ∧ x.1 < b + 26 := by
  obtain ⟨c, hc, rfl⟩ := List.mem_map.mp h
  have := wk_lt (hl c hc)
  dsimp only
  omega
theorem l19_lt : ∀ c, c ∈ l19 → c < 23 := by decide
theorem l23_lt : ∀ c, c ∈ l23 → c < 23 := by decide
theorem l23_all : ∀ c, c < 23 → c ∈ l23 := by decide
/-- entries ahead that are of other keys -/
theorem mE_app {v : mV} : ∀ (a r : List (Nat × mF)) (k : Nat), (∀ x, x ∈ a → x.1 ≠ k) → mE v (a ++ r) k = mE v r k
  | [], _, _, _ => rfl
  | (o, f) :: a, r, k, h => by
    show va_up (mE v (a ++ r)) o f k = mE v r k
    rw [mup_ne (fun e => h (o, f) List.mem_cons_self e.symm)]
    exact mE_app a r k (fun x hx => h x (List.mem_cons_of_mem _ hx))
theorem mE_blk {v : mV} {b c : Nat} {C : Nat → mF} {r : List (Nat × mF)} : ∀ (l : List Nat), c ∈ l → mE v (bE b l C ++ r) (b + wk c) = C c
  | [], h => absurd h List.not_mem_nil
  | a :: l, h => by
    show va_up (mE v (bE b l C ++ r)) (b + wk a) (C a) (b + wk c) = C c
    by_cases e : a = c
    · subst e
      exact mup_eq
    · rw [mup_ne (fun q => e (wk_inj (by omega)))]
      refine mE_blk l ?_
      rcases List.mem_cons.mp h with q | q
      · exact absurd q.symm e
      · exact q
theorem mE_blkN {v : mV} {b c : Nat} {C : Nat → mF} {r : List (Nat × mF)} {l : List Nat} (h : c ∉ l) : mE v (bE b l C ++ r) (b + wk c) = mE v r (b + wk c) := by
  refine mE_app _ _ _ (fun x hx e => ?_)
  obtain ⟨a, ha, rfl⟩ := List.mem_map.mp hx
  exact h (wk_inj (show wk c = wk a by have := e; dsimp only at this; omega) ▸ ha)
theorem mE_blkO {v : mV} {b k : Nat} {C : Nat → mF} {r : List (Nat × mF)} {l : List Nat} (hl : ∀ c, c ∈ l → c < 23) (h : k < b ∨ b + 26 ≤ k) : mE v (bE b l C ++ r) k = mE v r k :=
  mE_app _ _ _ (fun x hx e => by have := bE_key hl hx; omega)
theorem mE_skip {v : mV} {k : Nat} {r : List (Nat × mF)} (h : ∀ x, x ∈ r → x.1 ≠ k) : mE v ((k, v k) :: r) = mE v r := by
  show va_up (mE v r) k (v k) = mE v r
  have e : v k = mE v r k := (mE_out r k h).symm
  rw [e]
  exact mup_self
theorem mE_idb {v : mV} {b : Nat} {r : List (Nat × mF)} : ∀ (l : List Nat), (∀ c, c ∈ l → c < 23) → (∀ x, x ∈ r → x.1 < b ∨ b + 26 ≤ x.1) → mE v (bE b l (wrO v b) ++ r) = mE v r
  | [], _, _ => rfl
  | a :: l, hl, hr => by
    have ih := mE_idb (v := v) l (fun c hc => hl c (List.mem_cons_of_mem _ hc)) hr
    have ha := wk_lt (hl a List.mem_cons_self)
    show va_up (mE v (bE b l (wrO v b) ++ r)) (b + wk a) (v (b + wk a)) = mE v r
    have e : v (b + wk a) = mE v r (b + wk a) := (mE_out r _ (fun x hx e => by have := hr x hx; omega)).symm
    rw [ih, e]
    exact mup_self
/-- the rows of a World that was written -/
theorem wr_blk {v : mV} {b : Nat} {C : Nat → mF} {r : List (Nat × mF)} {l : List Nat} (hC : ∀ c, c < 23 → c ∉ l → C c = v (b + wk c)) (hr : ∀ x, x ∈ r → x.1 < b ∨ b + 26 ≤ x.1) : ∀ c, c < 23 → wrO (mE v (bE b l C ++ r)) b c = C c := by
  intro c hc
  have hw := wk_lt hc
  show mE v (bE b l C ++ r) (b + wk c) = C c
  by_cases h : c ∈ l
  · exact mE_blk l h
  · rw [mE_blkN h, hC c hc h]
    exact mE_out r _ (fun x hx e => by have := hr x hx; omega)
/-- only these rows of a World count -/
theorem WI_l {J T : Nat} {joins n : mF} {W W' : Nat → mF} (h : WI J joins W n T) (e : ∀ c, c ∈ l19 → W' c = W c) (e3 : W' 3 0 = 0) (e13 : W' 13 0 = 1) : WI J joins W' n T := by
  obtain ⟨h1, h2, h3, h4, h5, h6⟩ := h
  have g : ∀ c, l19.contains c = true → W' c = W c := fun c hc => e c (List.contains_iff_mem.mp hc)
  refine ⟨?_, ?_, ?_, e3, e13, RI_q h6 ?_⟩
  · intro m hm
    have h7 := h1 m hm
    unfold RMw at h7 ⊢
    rcases (show m = 0 ∨ m = 1 by omega) with rfl | rfl
    · rw [g (4 + 10 * 0) (by decide), g (6 + 10 * 0) (by decide), g (7 + 10 * 0) (by decide), g (8 + 10 * 0) (by decide), g (9 + 10 * 0) (by decide), g (10 + 10 * 0) (by decide), g (11 + 10 * 0) (by decide), g (12 + 10 * 0) (by decide)]
      exact h7
    · rw [g (4 + 10 * 1) (by decide), g (6 + 10 * 1) (by decide), g (7 + 10 * 1) (by decide), g (8 + 10 * 1) (by decide), g (9 + 10 * 1) (by decide), g (10 + 10 * 1) (by decide), g (11 + 10 * 1) (by decide), g (12 + 10 * 1) (by decide)]
      exact h7
  · rw [g 1 (by decide), g 2 (by decide)]
    exact h2
  · rw [g 0 (by decide)]
    exact h3
  · intro m i hm hi
    rcases (show m = 0 ∨ m = 1 by omega) with rfl | rfl <;> rcases (show i = 0 ∨ i = 1 by omega) with rfl | rfl
    · rw [g (11 + 10 * 0 + 0) (by decide)]
      exact ⟨rfl, rfl⟩
    · rw [g (11 + 10 * 0 + 1) (by decide)]
      exact ⟨rfl, rfl⟩
    · rw [g (11 + 10 * 1 + 0) (by decide)]
      exact ⟨rfl, rfl⟩
    · rw [g (11 + 10 * 1 + 1) (by decide)]
      exact ⟨rfl, rfl⟩
theorem RH_of {J T : Nat} {joins hist f acts : mF} {S S' : Nat → Nat → mF} (h : RH J joins hist S f acts T) (e : ∀ j, j < 8 → ∀ c, c ∈ l19 → S' j c = S j c) (e3 : ∀ j, j < 8 → S' j 3 0 = 0 ∧ S' j 13 0 = 1) : RH J joins hist S' f acts T := by
  obtain ⟨u, x, h1, h2, h3, h4, h5, h6, h7⟩ := h
  refine ⟨u, x, h1, h2, h3, h4, h5, e3, fun j hj => ?_⟩
  have hm : (x + 8 - u + j) % 8 < 8 := Nat.mod_lt _ (by decide)
  exact WI_l (h7 j hj) (e _ hm) (e3 _ hm).1 (e3 _ hm).2
theorem RK_of {J T : Nat} {joins kp kp' kept : mF} {K K' : Nat → Nat → mF} (h : RK J joins kp K kp' kept T) (e : ∀ j, j < 2 → ∀ c, c ∈ l19 → K' j c = K j c) (e3 : ∀ j, j < 2 → K' j 3 0 = 0 ∧ K' j 13 0 = 1) : RK J joins kp K' kp' kept T := by
  intro k hk
  obtain ⟨h1, h2, h3, h4, h5⟩ := h k hk
  exact ⟨(e3 k hk).1, (e3 k hk).2, h3, h4, fun q => WI_l (h5 q) (e k hk) (e3 k hk).1 (e3 k hk).2⟩
/-- WHAT HOLDS between two calls, of the rows -/
def IJ (J : Nat) (v : mV) (w : mX) (pg T : Nat) : Prop := ∃ L K s : Nat, WI J (v 383) (wrO v 50) (v 388) T ∧ (v 80 0 = 0 ∧ v 91 0 = 1) ∧ RH J (v 383) (v 102) (fun j => wrO v (104 + 26 * j)) (v 371) (v 391) T ∧ RK J (v 383) (v 365) (fun k => wrO v (313 + 26 * k)) (v 393) (v 392) T ∧ PC J (v pg) (v (pg + 1)) (v (pg + 2)) (v (pg + 5)) (v (pg + 6)) (v (pg + 7)) (v (pg + 8)) (v 371) (v 380) (v 381) (v 383) ∧ (JN0 (v (pg + 1)) (v (pg + 2)) L ∧ L ≤ 100 ∧ v pg 1 = nI L ∧ v 371 33 = nI L ∧ ∀ k, k < L → v 380 k = v (pg + 1) k ∧ v 381 k = v (pg + 2) k) ∧ (K ≤ 100 ∧ v pg 4 = nI K ∧ v 371 34 = nI K ∧ ∀ k, k < K → v 382 k = v (pg + 4) k) ∧ (s ≤ 700 ∧ v 0 1 = nI s ∧ v 371 4 = nI s ∧ TP (v 1) (v 373)) ∧ NMS (v 3) (w 372)
def IV (v : mV) (w : mX) (pg T : Nat) : Prop := ∃ J : Nat, IJ J v w pg T
/-- the shapes -/
def Sh (B : mB) (pg sp : Nat) : Prop := B.2.1.length = 399 ∧ (B.2.1[0]? = some (9, 0) ∧ B.2.1[1]? = some (21, 700) ∧ B.2.1[312]? = some (26, 2) ∧ B.2.1[365]? = some (22, 2) ∧ B.2.1[370]? = some (20, 16) ∧ B.2.1[398]? = some (23, 1)) ∧ (B.2.2 0 0 = some 1 ∧ B.2.2 0 2 = some 2 ∧ B.2.2 0 3 = some pg ∧ B.2.2 0 4 = some sp ∧ B.2.2 0 5 = some 50 ∧ B.2.2 0 6 = some 76 ∧ B.2.2 0 7 = some 102 ∧ B.2.2 0 8 = some 312 ∧ B.2.2 0 9 = some 365 ∧ B.2.2 0 10 = some 366 ∧ B.2.2 0 11 = some 370 ∧ B.2.2 312 0 = some 313 ∧ B.2.2 312 1 = some 339) ∧ (isRd B 2 ∧ isPrg B 22 ∧ isPrg B 36 ∧ isWorld B 50 ∧ isWorld B 76 ∧ isHi B 102 ∧ isWorld B 313 ∧ isWorld B 339 ∧ isWays B 366 ∧ isMod B 371) ∧ (pg = 22 ∧ sp = 36 ∨ pg = 36 ∧ sp = 22)
section SHP
variable {B : mB} {pg sp : Nat}
theorem sh_p (h : Sh B pg sp) : pg = 22 ∧ sp = 36 ∨ pg = 36 ∧ sp = 22 := h.2.2.2.2
theorem sh_G (h : Sh B pg sp) : isPrg B pg := by
  obtain ⟨-, -, -, h, q⟩ := h
  rcases q with ⟨rfl, -⟩ | ⟨rfl, -⟩
  · exact h.2.1
  · exact h.2.2.1
theorem sh_sl (h : Sh B pg sp) {x : Int32} {i : Nat} (hi : i < 8) (e : x = nI i) : B.2.2 (102 + 1) x.toNatClampNeg = some (104 + 26 * i) ∧ isWorld B (104 + 26 * i) := by
  rw [e, nI_clamp (by omega)]
  exact ⟨h.2.2.2.1.2.2.2.2.2.1.2.1 i hi, h.2.2.2.1.2.2.2.2.2.1.2.2 i hi⟩
end SHP
/-- what holds between two calls, of the heap -/
def JInv (σ : mMH) (T : Nat) : Prop := ∃ pg sp, Sh (mBo σ) pg sp ∧ IV σ.2.2.2.1 σ.2.2.2.2 pg T
/-- one call on each side: the answers are equal, and it holds again -/
def PairOK (j9 j10 : Nat) (as : List Value) (σ : mMH) (T : Nat) : Prop := ∃ (x : Int32) (τ τ' : mMH), mCall 10 j9 (.ref 0 :: as) σ (some x) τ ∧ mCall 10 j10 (.ref 371 :: as) τ (some x) τ' ∧ τ.1 = σ.1 ∧ τ.2.1 = σ.2.1 ∧ τ'.1 = σ.1 ∧ τ'.2.1 = σ.2.1 ∧ JInv τ' T
theorem pair_of {B : mB} {v v1 v2 : mV} {w w2 : mX} {pg sp j9 j10 T : Nat} {as : List Value} {x : Int32} (hS : Sh B pg sp) (h1 : CQ 10 j9 (.ref 0 :: as) (mH B v w) (fun q τ => q = some x ∧ τ = mH B v1 w)) (h2 : CQ 10 j10 (.ref 371 :: as) (mH B v1 w) (fun q τ => q = some x ∧ τ = mH B v2 w2)) (hI : IV v2 w2 pg T) : PairOK j9 j10 as (mH B v w) T := by
  have hl : B.2.1.length = 399 := hS.1
  obtain ⟨r, τ, a1, a2, a3, rfl, rfl⟩ := h1 (by show B.2.1.length ≤ 1000000; omega)
  obtain ⟨r', τ', b1, b2, b3, rfl, rfl⟩ := h2 (by show B.2.1.length ≤ 1000000; omega)
  exact ⟨x, _, _, a1, b1, rfl, rfl, rfl, rfl, pg, sp, hS, hI⟩
/-- a query: beside the trial World, ways and what was found nothing of the class has changed -/
theorem IJ_q {v v' : mV} {w : mX} {J pg T T' : Nat} (h : IJ J v w pg T) (hp : pg = 22 ∨ pg = 36) (hT : T ≤ T') (ha : ∀ k, k < 366 → ¬ (76 ≤ k ∧ k < 102) → v' k = v k) (h3 : v' 80 0 = 0) (h13 : v' 91 0 = 1) (hf : FE (v 371) (v' 371)) (hn : ∀ k, k < 532 → v' 388 k = v 388 k) (hm : v' 373 = v 373 ∧ v' 380 = v 380 ∧ v' 381 = v 381 ∧ v' 382 = v 382 ∧ v' 383 = v 383 ∧ v' 391 = v 391 ∧ v' 392 = v 392 ∧ v' 393 = v 393) : IJ J v' w pg T' := by
  obtain ⟨L, K, s, i1, i2, i3, i4, i5, i6, i7, i8, i9⟩ := h
  obtain ⟨m1, m2, m3, m4, m5, m6, m7, m8⟩ := hm
  have f4 : v' 371 4 = v 371 4 := hf 4 (by decide) (by decide) (by decide)
  have f33 : v' 371 33 = v 371 33 := hf 33 (by decide) (by decide) (by decide)
  have f34 : v' 371 34 = v 371 34 := hf 34 (by decide) (by decide) (by decide)
  have f35 : v' 371 35 = v 371 35 := hf 35 (by decide) (by decide) (by decide)
  have f44 : v' 371 44 = v 371 44 := hf 44 (by decide) (by decide) (by decide)
  refine ⟨L, K, s, ?_, ⟨h3, h13⟩, ?_, ?_, ?_, ?_, ?_, ?_, ?_⟩
  · rw [m5]
    exact WI_T (WI_n (WI_c i1 (fun c hc => ha _ (by have := wk_lt hc; omega) (by have := wk_lt hc; omega))) hn) hT
  · rw [m5, m6, ha 102 (by decide) (by decide)]
    refine RH_T (RH_f (RH_of i3 (fun j hj c hc => ha _ (by have := wk_lt (l19_lt c hc); omega) (by have := wk_lt (l19_lt c hc); omega)) (fun j hj => ?_)) f44) hT
    obtain ⟨u, x, -, -, -, -, -, q, -⟩ := i3
    have q1 := q j hj
    refine ⟨?_, ?_⟩
    · show v' (104 + 26 * j + wk 3) 0 = 0
      rw [ha _ (by have := @wk_lt 3 (by decide); omega) (by have := @wk_lt 3 (by decide); omega)]
      exact q1.1
    · show v' (104 + 26 * j + wk 13) 0 = 1
      rw [ha _ (by have := @wk_lt 13 (by decide); omega) (by have := @wk_lt 13 (by decide); omega)]
      exact q1.2
  · rw [m5, m8, m7, ha 365 (by decide) (by decide)]
    refine RK_T (RK_of i4 (fun j hj c hc => ha _ (by have := wk_lt (l19_lt c hc); omega) (by have := wk_lt (l19_lt c hc); omega)) (fun j hj => ?_)) hT
    have q1 := i4 j hj
    refine ⟨?_, ?_⟩
    · show v' (313 + 26 * j + wk 3) 0 = 0
      rw [ha _ (by have := @wk_lt 3 (by decide); omega) (by have := @wk_lt 3 (by decide); omega)]
      exact q1.1
    · show v' (313 + 26 * j + wk 13) 0 = 1
      rw [ha _ (by have := @wk_lt 13 (by decide); omega) (by have := @wk_lt 13 (by decide); omega)]
      exact q1.2.1
  · rw [m5, m2, m3, ha pg (by omega) (by omega), ha (pg + 1) (by omega) (by omega), ha (pg + 2) (by omega) (by omega), ha (pg + 5) (by omega) (by omega), ha (pg + 6) (by omega) (by omega), ha (pg + 7) (by omega) (by omega), ha (pg + 8) (by omega) (by omega)]
    exact PC_f i5 f33 f35
  · rw [m2, m3, f33, ha pg (by omega) (by omega), ha (pg + 1) (by omega) (by omega), ha (pg + 2) (by omega) (by omega)]
    exact i6
  · rw [m4, f34, ha pg (by omega) (by omega), ha (pg + 4) (by omega) (by omega)]
    exact i7
  · rw [m1, f4, ha 0 (by decide) (by decide), ha 1 (by decide) (by decide)]
    exact i8
  · rw [ha 3 (by decide) (by decide)]
    exact i9

theorem RH_b {J T : Nat} {joins hist f acts : mF} {S : Nat → Nat → mF} (h : RH J joins hist S f acts T) : ∀ j, j < 8 → S j 3 0 = 0 ∧ S j 13 0 = 1 := by
  obtain ⟨u, x, -, -, -, -, -, q, -⟩ := h
  exact q
/-- an act -/
theorem IJ_a {v v' : mV} {w : mX} {J pg T T' : Nat} (h : IJ J v w pg T) (hp : pg = 22 ∨ pg = 36) (a1 : WI J (v 383) (wrO v' 50) (v' 388) T') (a2 : RH J (v 383) (v' 102) (fun j => wrO v' (104 + 26 * j)) (v' 371) (v' 391) T') (a3 : RK J (v 383) (v' 365) (fun k => wrO v' (313 + 26 * k)) (v' 393) (v' 392) T') (hf : FA (v 371) (v' 371)) (ha : ∀ k, k < 50 → v' k = v k) (b1 : v' 80 = v 80) (b2 : v' 91 = v 91) (hm : v' 373 = v 373 ∧ v' 380 = v 380 ∧ v' 381 = v 381 ∧ v' 382 = v 382 ∧ v' 383 = v 383) : IJ J v' w pg T' := by
  obtain ⟨L, K, s, i1, i2, i3, i4, i5, i6, i7, i8, i9⟩ := h
  obtain ⟨m1, m2, m3, m4, m5⟩ := hm
  have f4 : v' 371 4 = v 371 4 := hf 4 (by decide) (by decide) (by decide) (by decide)
  have f33 : v' 371 33 = v 371 33 := hf 33 (by decide) (by decide) (by decide) (by decide)
  have f34 : v' 371 34 = v 371 34 := hf 34 (by decide) (by decide) (by decide) (by decide)
  have f35 : v' 371 35 = v 371 35 := hf 35 (by decide) (by decide) (by decide) (by decide)
  refine ⟨L, K, s, by rw [m5]; exact a1, by rw [b1, b2]; exact i2, by rw [m5]; exact a2, by rw [m5]; exact a3, ?_, ?_, ?_, ?_, ?_⟩
  · rw [m5, m2, m3, ha pg (by omega), ha (pg + 1) (by omega), ha (pg + 2) (by omega), ha (pg + 5) (by omega), ha (pg + 6) (by omega), ha (pg + 7) (by omega), ha (pg + 8) (by omega)]
    exact PC_f i5 f33 f35
  · rw [m2, m3, f33, ha pg (by omega), ha (pg + 1) (by omega), ha (pg + 2) (by omega)]
    exact i6
  · rw [m4, f34, ha pg (by omega), ha (pg + 4) (by omega)]
    exact i7
  · rw [m1, f4, ha 0 (by decide), ha 1 (by decide)]
    exact i8
  · rw [ha 3 (by decide)]
    exact i9
theorem mE_cg {v : mV} {r r' : List (Nat × mF)} (h : mE v r = mE v r') : ∀ (a : List (Nat × mF)), mE v (a ++ r) = mE v (a ++ r')
  | [] => h
  | (o, f) :: a => by
    show va_up (mE v (a ++ r)) o f = va_up (mE v (a ++ r')) o f
    rw [mE_cg h a]
theorem mE_skp {v : mV} {k : Nat} {f : mF} {r : List (Nat × mF)} (e : v k = f) (h : ∀ x, x ∈ r → x.1 ≠ k) : mE v ([(k, f)] ++ r) = mE v r := by
  subst e
  exact mE_skip h
/-- rows of the class stand below 371, the reference's from there on -/
theorem mE_lo {v : mV} {k : Nat} {E : List (Nat × mF)} (h : ∀ x, x ∈ E → 371 ≤ x.1) (hk : k < 371) : mE v E k = v k := mE_out E k (fun x hx e => by have := h x hx; omega)
theorem mE_hi {v : mV} {k : Nat} {E : List (Nat × mF)} (h : ∀ x, x ∈ E → x.1 < 371) (hk : 371 ≤ k) : mE v E k = v k := mE_out E k (fun x hx e => by have := h x hx; omega)
theorem bE_lt {b m : Nat} {l : List Nat} {C : Nat → mF} (hl : ∀ c, c ∈ l → c < 23) (hb : b + 26 ≤ m) : ∀ x, x ∈ bE b l C → x.1 < m := fun x hx => by have := bE_key hl hx; omega
