/-! PURE: ways, the class's side (GENERATED, wip/gen/p/70.py) -/
def cnt (s : mF) : Nat → Nat
  | 0 => 0
  | k + 1 => cnt s k + (if s k = 0 then 0 else 1)
theorem cnt_le {s : mF} : ∀ L, cnt s L ≤ L
  | 0 => Nat.le_refl 0
  | k + 1 => by
    have := cnt_le (s := s) k
    unfold cnt
    split <;> omega
theorem cnt_u {s : mF} {x : Nat} {v : Int32} (hs : s x = 0) (hv : ¬ v = 0) : ∀ L, cnt (upd s x v) L = cnt s L + (if x < L then 1 else 0)
  | 0 => by
    rw [if_neg (Nat.not_lt_zero x)]
    rfl
  | k + 1 => by
    have ih := cnt_u (s := s) (x := x) (v := v) hs hv k
    unfold cnt
    rw [ih]
    by_cases e : x = k
    · subst e
      rw [pk_us, hs, if_neg hv, if_pos rfl, if_neg (Nat.lt_irrefl x), if_pos (by omega)]
    · rw [pk_un (Ne.symm e)]
      by_cases c : x < k
      · rw [if_pos c, if_pos (show x < k + 1 by omega)]
        omega
      · rw [if_neg c, if_neg (show ¬ x < k + 1 by omega)]
        omega
theorem cnt_mono {s t : mF} : ∀ L, (∀ i, i < L → ¬ s i = 0 → ¬ t i = 0) → cnt s L ≤ cnt t L
  | 0, _ => Nat.le_refl 0
  | k + 1, h => by
    have ih := cnt_mono (s := s) (t := t) k (fun i hi => h i (by omega))
    have hk := h k (by omega)
    unfold cnt
    by_cases c : s k = 0
    · rw [if_pos c]
      omega
    · rw [if_neg c, if_neg (hk c)]
      omega
theorem cnt_eq {s t : mF} : ∀ L, (∀ i, i < L → ¬ s i = 0 → ¬ t i = 0) → cnt t L ≤ cnt s L → ∀ i, i < L → ¬ t i = 0 → ¬ s i = 0
  | 0, _, _, _, hi, _ => absurd hi (Nat.not_lt_zero _)
  | k + 1, h, hc, i, hi, ht => by
    have hm := cnt_mono (s := s) (t := t) k (fun i hi => h i (by omega))
    have hk := h k (by omega)
    unfold cnt at hc
    by_cases c : s k = 0
    · rw [if_pos c] at hc
      by_cases c2 : t k = 0
      · rw [if_pos c2] at hc
        have e : i ≠ k := fun q => ht (by rw [q]; exact c2)
        exact cnt_eq (s := s) (t := t) k (fun i hi => h i (by omega)) (by omega) i (by omega) ht
      · rw [if_neg c2] at hc
        omega
    · rw [if_neg c, if_neg (hk c)] at hc
      by_cases e : i = k
      · rw [e]
        exact c
      · exact cnt_eq (s := s) (t := t) k (fun i hi => h i (by omega)) (by omega) i (by omega) ht
theorem cnt_0 {s : mF} : ∀ L, cnt s L = 0 → ∀ i, i < L → s i = 0
  | 0, _, _, hi => absurd hi (Nat.not_lt_zero _)
  | k + 1, h, i, hi => by
    unfold cnt at h
    by_cases c : s k = 0
    · by_cases e : i = k
      · rw [e]
        exact c
      · exact cnt_0 (s := s) k (by omega) i (by omega)
    · rw [if_neg c] at h
      omega
/-- where one goes from i -/
def sc (op num : mF) (L : Nat) (bj : Int32) (i j : Nat) : Prop := j < L ∧ (((op i = 8 ∨ (op i = 7 ∧ ¬ bj = 0)) ∧ num i = nI j) ∨ ((¬ op i = 7 ∧ ¬ op i = 19 ∧ ¬ op i = 29 ∧ ¬ op i = 38) ∧ j = i + 1))
/-- t is what is come to from s -/
def ClS (op num : mF) (L : Nat) (bj : Int32) (s t : mF) : Prop := (∀ j, j < L → ¬ s j = 0 → ¬ t j = 0) ∧ (∀ P : Nat → Prop, (∀ i, i < L → ¬ s i = 0 → P i) → (∀ i j, i < L → P i → sc op num L bj i j → P j) → ∀ j, j < L → ¬ t j = 0 → P j) ∧ ∀ i j, i < L → ¬ t i = 0 → sc op num L bj i j → ¬ t j = 0
theorem ClS_u {op num s s' a b : mF} {L : Nat} {bj : Int32} (h : ClS op num L bj s a) (h' : ClS op num L bj s' b) (e : ∀ j, j < L → (s j = 0 ↔ s' j = 0)) : ∀ j, j < L → (a j = 0 ↔ b j = 0) := by
  have h1 := h.2.1 (fun i => ¬ b i = 0) (fun i hi q => h'.1 i hi (fun z => q ((e i hi).mpr z))) (fun i j hi q sq => h'.2.2 i j hi q sq)
  have h2 := h'.2.1 (fun i => ¬ a i = 0) (fun i hi q => h.1 i hi (fun z => q ((e i hi).mp z))) (fun i j hi q sq => h.2.2 i j hi q sq)
  intro j hj
  exact ⟨fun z => Classical.byContradiction fun q => h2 j hj q z, fun z => Classical.byContradiction fun q => h1 j hj q z⟩
/-- the class's work list -/
def WL (L : Nat) (this seen opn : mF) : Prop := this 0 = nI L ∧ this 4 = nI (cnt seen L) ∧ (∀ k, k < cnt seen L → ∃ q : Nat, q < L ∧ opn k = nI q ∧ ¬ seen q = 0) ∧ (∀ i, i < L → ¬ seen i = 0 → ∃ k : Nat, k < cnt seen L ∧ opn k = nI i) ∧ ∀ i, i < L → seen i = 0 ∨ seen i = 1
def XT (L : Nat) (s p s' p' : mF) (A : Nat → Prop) : Prop := (∀ j, j < L → (¬ s' j = 0 ↔ ¬ s j = 0 ∨ A j)) ∧ (∀ k, k < cnt s L → p' k = p k) ∧ cnt s L ≤ cnt s' L
theorem XT_r {L : Nat} {s p : mF} {A : Nat → Prop} (h : ∀ j, j < L → A j → ¬ s j = 0) : XT L s p s p A := ⟨fun j hj => ⟨fun q => Or.inl q, fun q => q.elim id (h j hj)⟩, fun _ _ => rfl, Nat.le_refl _⟩
theorem XT_t {L : Nat} {s p s1 p1 s2 p2 : mF} {A B C : Nat → Prop} (h : XT L s p s1 p1 A) (h2 : XT L s1 p1 s2 p2 B) (e : ∀ j, j < L → (C j ↔ A j ∨ B j)) : XT L s p s2 p2 C := by
  obtain ⟨a1, a2, a3⟩ := h
  obtain ⟨b1, b2, b3⟩ := h2
  refine ⟨fun j hj => ?_, fun k hk => (b2 k (by omega)).trans (a2 k hk), by omega⟩
  rw [b1 j hj, a1 j hj, e j hj]
  exact or_assoc
theorem XT_c {L : Nat} {s p s1 p1 : mF} {A C : Nat → Prop} (h : XT L s p s1 p1 A) (e : ∀ j, j < L → (C j ↔ A j)) : XT L s p s1 p1 C := ⟨fun j hj => by rw [h.1 j hj, e j hj], h.2⟩
section WYS
variable {op num this seen opn prg pick : mF} {L : Nat}
theorem p_see (hL : L ≤ 100) (h : WL L this seen opn) (x : Int32) : OX7_see x this seen opn ∧ ∃ this' seen' opn', FX7_see x this seen opn = (0, this', seen', opn') ∧ WL L this' seen' opn' ∧ XT L seen opn seen' opn' (fun j => x = nI j) := by
  obtain ⟨h0, h4, h1, h2, h3⟩ := h
  unfold OX7_see FX7_see
  by_cases c : x < 0
  · rw [if_pos c]
    exact ⟨⟨fun _ => trivial, fun q => absurd c q⟩, this, seen, opn, rfl, ⟨h0, h4, h1, h2, h3⟩, XT_r (fun j hj e => by rw [e] at c; exact absurd c (nI_pos (by omega)))⟩
  · obtain ⟨k, hk, rfl⟩ := nI_of c
    rw [if_neg c, h0]
    rcases Nat.lt_or_ge k L with q | q
    · have c2 : ¬ nI L ≤ nI k := nI_ge q (by omega)
      have ck : (nI k).toNatClampNeg = k := nI_clamp (by omega)
      have vk : vp_in (nI k) 100 := vp_in_nI (by omega) (by decide)
      rw [if_neg c2, ck]
      by_cases c3 : seen k = 0
      · rw [if_pos c3]
        have ec : cnt (upd seen k 1) L = cnt seen L + 1 := by rw [cnt_u c3 (by decide), if_pos q]
        have hc := cnt_le (s := upd seen k 1) L
        have v4 : vp_in (this 4) 100 := by
          rw [h4]
          exact vp_in_nI (by omega) (by decide)
        have c4 : (this 4).toNatClampNeg = cnt seen L := by
          rw [h4]
          exact nI_clamp (by omega)
        refine ⟨⟨fun z => absurd z c, fun _ => ⟨fun z => absurd z c2, fun _ => ⟨vk, fun _ => ⟨vk, v4⟩, fun z => absurd c3 z⟩⟩⟩, upd this 4 (this 4 + 1), upd seen k 1, upd opn (cnt seen L) (nI k), ?_, ⟨(pk_un (by decide)).trans h0, ?_, fun j hj => ?_, fun i hi hs => ?_, fun i hi => ?_⟩, fun j hj => ?_, fun j hj => pk_un (by omega), by omega⟩
        · dsimp only
          rw [c4]
        · rw [pk_us, h4, ec, nI_1]
        · rw [ec] at hj
          by_cases e : j = cnt seen L
          · exact ⟨k, q, by rw [e, pk_us], by rw [pk_us]; decide⟩
          · obtain ⟨r, r1, r2, r3⟩ := h1 j (by omega)
            refine ⟨r, r1, by rw [pk_un e]; exact r2, ?_⟩
            rw [upd_at]
            split
            · decide
            · exact r3
        · rw [ec]
          by_cases e : i = k
          · exact ⟨cnt seen L, by omega, by rw [pk_us, e]⟩
          · rw [pk_un e] at hs
            obtain ⟨r, r1, r2⟩ := h2 i hi hs
            exact ⟨r, by omega, by rw [pk_un (by omega)]; exact r2⟩
        · rw [upd_at]
          split
          · exact Or.inr rfl
          · exact h3 i hi
        · rw [upd_at]
          by_cases e : j = k
          · rw [if_pos e]
            exact ⟨fun _ => Or.inr (by rw [e]), fun _ => by decide⟩
          · rw [if_neg e]
            refine ⟨fun z => Or.inl z, fun z => z.elim id (fun y => absurd ((nI_eq (by omega) (by omega)).mp y).symm e)⟩
      · rw [if_neg c3]
        exact ⟨⟨fun z => absurd z c, fun _ => ⟨fun z => absurd z c2, fun _ => ⟨vk, fun z => absurd z c3, fun _ => trivial⟩⟩⟩, this, seen, opn, rfl, ⟨h0, h4, h1, h2, h3⟩, XT_r (fun j hj e => by rw [← (nI_eq (by omega) (by omega)).mp e]; exact c3)⟩
    · have c2 : nI L ≤ nI k := nI_le q hk
      rw [if_pos c2]
      exact ⟨⟨fun z => absurd z c, fun _ => ⟨fun _ => trivial, fun z => absurd c2 z⟩⟩, this, seen, opn, rfl, ⟨h0, h4, h1, h2, h3⟩, XT_r (fun j hj e => by have := (nI_eq hk (by omega)).mp e; omega)⟩
theorem p_goOn {bj : Int32} (hL : L ≤ 100) (h : WL L this seen opn) {i : Nat} (hi : i < L) : OX7_goOn (nI i) bj this seen opn op num ∧ ∃ this' seen' opn', FX7_goOn (nI i) bj this seen opn op num = (0, this', seen', opn') ∧ WL L this' seen' opn' ∧ XT L seen opn seen' opn' (sc op num L bj i) := by
  have ci : (nI i).toNatClampNeg = i := nI_clamp (by omega)
  have vi : vp_in (nI i) 100 := vp_in_nI (by omega) (by decide)
  -- one step on
  have nxt : ∀ t s p, WL L t s p → ¬ op i = 7 → OX7_see (nI i + 1) t s p ∧ ∃ t' s' p', FX7_see (nI i + 1) t s p = (0, t', s', p') ∧ WL L t' s' p' ∧ XT L s p s' p' (fun j => j = i + 1) := by
    intro t s p ht _
    obtain ⟨a1, t', s', p', a2, a3, a4⟩ := p_see hL ht (nI i + 1)
    refine ⟨a1, t', s', p', a2, a3, XT_c a4 (fun j hj => ?_)⟩
    rw [nI_1]
    exact ⟨fun e => by rw [e], fun e => ((nI_eq (by omega) (by omega)).mp e).symm⟩
  unfold OX7_goOn FX7_goOn
  rw [ci]
  by_cases c8 : op i = 8
  · have n7 : ¬ op i = 7 := by rw [c8]; decide
    have n19 : ¬ op i = 19 := by rw [c8]; decide
    have n29 : ¬ op i = 29 := by rw [c8]; decide
    have n38 : ¬ op i = 38 := by rw [c8]; decide
    obtain ⟨a1, t1, s1, p1, a2, a3, a4⟩ := p_see hL h (num i)
    obtain ⟨b1, t2, s2, p2, b2, b3, b4⟩ := nxt t1 s1 p1 a3 n7
    rw [if_pos c8, a2]
    dsimp only
    rw [if_neg n7, if_neg n19, if_neg n29, if_neg n38, b2]
    refine ⟨⟨vi, fun _ => ⟨vi, a1, fun z => absurd z n7, fun _ => ⟨fun z => absurd z n19, fun _ => ⟨fun z => absurd z n29, fun _ => ⟨fun z => absurd z n38, fun _ => b1⟩⟩⟩⟩, fun z => absurd c8 z⟩, t2, s2, p2, rfl, b3, XT_t a4 b4 (fun j hj => ?_)⟩
    unfold sc
    constructor
    · intro z
      rcases z.2 with y | y
      · exact Or.inl y.2
      · exact Or.inr y.2
    · intro z
      rcases z with y | y
      · exact ⟨hj, Or.inl ⟨Or.inl c8, y⟩⟩
      · exact ⟨hj, Or.inr ⟨⟨n7, n19, n29, n38⟩, y⟩⟩
  · rw [if_neg c8]
    by_cases c7 : op i = 7
    · rw [if_pos c7]
      by_cases cb : bj = 0
      · rw [if_pos cb, if_pos c7]
        exact ⟨⟨vi, fun z => absurd z c8, fun _ => ⟨fun _ => ⟨fun _ => ⟨fun _ => trivial, fun z => absurd c7 z⟩, fun z => absurd cb z⟩, fun z => absurd c7 z⟩⟩, this, seen, opn, rfl, h, XT_r (fun j hj z => by
          rcases z.2 with y | y
          · rcases y.1 with y | y
            · exact absurd y c8
            · exact absurd cb y.2
          · exact absurd c7 y.1.1)⟩
      · obtain ⟨a1, t1, s1, p1, a2, a3, a4⟩ := p_see hL h (num i)
        rw [if_neg cb, a2]
        dsimp only
        rw [if_pos c7]
        refine ⟨⟨vi, fun z => absurd z c8, fun _ => ⟨fun _ => ⟨fun z => absurd z cb, fun _ => ⟨vi, a1, fun _ => trivial, fun z => absurd c7 z⟩⟩, fun z => absurd c7 z⟩⟩, t1, s1, p1, rfl, a3, XT_c a4 (fun j hj => ?_)⟩
        unfold sc
        constructor
        · intro z
          rcases z.2 with y | y
          · exact y.2
          · exact absurd c7 y.1.1
        · intro z
          exact ⟨hj, Or.inl ⟨Or.inr ⟨c7, cb⟩, z⟩⟩
    · rw [if_neg c7, if_neg c7]
      have none : (op i = 19 ∨ op i = 29 ∨ op i = 38) → XT L seen opn seen opn (sc op num L bj i) := fun q => XT_r (fun j hj z => by
        rcases z.2 with y | y
        · rcases y.1 with y | y
          · exact absurd y c8
          · exact absurd y.1 c7
        · rcases q with q | q | q
          · exact absurd q y.1.2.1
          · exact absurd q y.1.2.2.1
          · exact absurd q y.1.2.2.2)
      by_cases c19 : op i = 19
      · rw [if_pos c19]
        exact ⟨⟨vi, fun z => absurd z c8, fun _ => ⟨fun z => absurd z c7, fun _ => ⟨fun z => absurd z c7, fun _ => ⟨fun _ => trivial, fun z => absurd c19 z⟩⟩⟩⟩, this, seen, opn, rfl, h, none (Or.inl c19)⟩
      · rw [if_neg c19]
        by_cases c29 : op i = 29
        · rw [if_pos c29]
          exact ⟨⟨vi, fun z => absurd z c8, fun _ => ⟨fun z => absurd z c7, fun _ => ⟨fun z => absurd z c7, fun _ => ⟨fun z => absurd z c19, fun _ => ⟨fun _ => trivial, fun z => absurd c29 z⟩⟩⟩⟩⟩, this, seen, opn, rfl, h, none (Or.inr (Or.inl c29))⟩
        · rw [if_neg c29]
          by_cases c38 : op i = 38
          · rw [if_pos c38]
            exact ⟨⟨vi, fun z => absurd z c8, fun _ => ⟨fun z => absurd z c7, fun _ => ⟨fun z => absurd z c7, fun _ => ⟨fun z => absurd z c19, fun _ => ⟨fun z => absurd z c29, fun _ => ⟨fun _ => trivial, fun z => absurd c38 z⟩⟩⟩⟩⟩⟩, this, seen, opn, rfl, h, none (Or.inr (Or.inr c38))⟩
          · obtain ⟨b1, t2, s2, p2, b2, b3, b4⟩ := nxt this seen opn h c7
            rw [if_neg c38, b2]
            refine ⟨⟨vi, fun z => absurd z c8, fun _ => ⟨fun z => absurd z c7, fun _ => ⟨fun z => absurd z c7, fun _ => ⟨fun z => absurd z c19, fun _ => ⟨fun z => absurd z c29, fun _ => ⟨fun z => absurd z c38, fun _ => b1⟩⟩⟩⟩⟩⟩, t2, s2, p2, rfl, b3, XT_c b4 (fun j hj => ?_)⟩
            unfold sc
            constructor
            · intro z
              rcases z.2 with y | y
              · rcases y.1 with y | y
                · exact absurd y c8
                · exact absurd y.1 c7
              · exact y.2
            · intro z
              exact ⟨hj, Or.inr ⟨⟨c7, c19, c29, c38⟩, z⟩⟩
theorem l_follow {bj : Int32} (hL : L ≤ 100) : ∀ (m i fuel : Nat) (this seen opn : mF), i + m = L → m < fuel → WL L this seen opn → i ≤ cnt seen L → (∀ k, k < i → ∀ q, opn k = nI q → q < L → ∀ j, sc op num L bj q j → ¬ seen j = 0) → OX7_follow_b1 fuel bj (nI i) this seen opn op num ∧ ∃ this' seen' opn', FX7_follow_b1 fuel bj (nI i) this seen opn op num = (this', seen', opn') ∧ WL L this' seen' opn' ∧ ClS op num L bj seen seen' := by
  intro m
  induction m with
  | zero =>
    intro i fuel this seen opn hi hf h hc hp
    obtain ⟨fuel, rfl⟩ : ∃ k, fuel = k + 1 := ⟨fuel - 1, by omega⟩
    have hcl := cnt_le (s := seen) L
    have c : this 4 ≤ nI i := by
      rw [h.2.1]
      exact nI_le (by omega) (by omega)
    rw [OX7_follow_b1, FX7_follow_b1, if_pos c]
    refine ⟨⟨fun _ => trivial, fun z => absurd c z⟩, this, seen, opn, rfl, h, fun _ _ q => q, fun P p1 _ j hj q => p1 j hj q, fun a b ha q sq => ?_⟩
    obtain ⟨k, k1, k2⟩ := h.2.2.2.1 a ha q
    exact hp k (by omega) a k2 ha b sq
  | succ m ih =>
    intro i fuel this seen opn hi hf h hc hp
    obtain ⟨fuel, rfl⟩ : ∃ k, fuel = k + 1 := ⟨fuel - 1, by omega⟩
    rcases Nat.lt_or_ge i (cnt seen L) with q | q
    · have c : ¬ this 4 ≤ nI i := by
        rw [h.2.1]
        exact nI_ge q (by have := cnt_le (s := seen) L; omega)
      have c2 : ¬ this 0 ≤ nI i := by
        rw [h.1]
        exact nI_ge (by omega) (by omega)
      have ci : (nI i).toNatClampNeg = i := nI_clamp (by omega)
      have vi : vp_in (nI i) 100 := vp_in_nI (by omega) (by decide)
      obtain ⟨r, r1, r2, r3⟩ := h.2.2.1 i q
      obtain ⟨g1, t1, s1, p1, g2, g3, g4, g5, g6⟩ := p_goOn (op := op) (num := num) (bj := bj) hL h r1
      have hp1 : ∀ k, k < i + 1 → ∀ q, p1 k = nI q → q < L → ∀ j, sc op num L bj q j → ¬ s1 j = 0 := by
        intro k hk q' e hq j sj
        rw [g5 k (by omega)] at e
        by_cases ek : k = i
        · subst ek
          have eq : r = q' := (nI_eq (by omega) (by omega)).mp (r2.symm.trans e)
          subst eq
          exact (g4 j sj.1).mpr (Or.inr sj)
        · exact (g4 j sj.1).mpr (Or.inl (hp k (by omega) q' e hq j sj))
      obtain ⟨i1, t2, s2, p2, i2, i3, i4, i5, i6⟩ := ih (i + 1) fuel t1 s1 p1 (by omega) (by omega) g3 (by omega) hp1
      rw [OX7_follow_b1, FX7_follow_b1, if_neg c, if_neg c2, ci, r2, g2, nI_1]
      refine ⟨⟨fun z => absurd z c, fun _ => ⟨fun z => absurd z c2, fun _ => ⟨vi, g1, i1⟩⟩⟩, t2, s2, p2, i2, i3, fun j hj z => i4 j hj ((g4 j hj).mpr (Or.inl z)), fun P a1 a2 j hj z => i5 P (fun a ha y => ?_) a2 j hj z, i6⟩
      rcases (g4 a ha).mp y with y | y
      · exact a1 a ha y
      · exact a2 r a r1 (a1 r r1 r3) y
    · have c : this 4 ≤ nI i := by
        rw [h.2.1]
        exact nI_le q (by omega)
      rw [OX7_follow_b1, FX7_follow_b1, if_pos c]
      refine ⟨⟨fun _ => trivial, fun z => absurd c z⟩, this, seen, opn, rfl, h, fun _ _ q => q, fun P p1 _ j hj q => p1 j hj q, fun a b ha q' sq => ?_⟩
      obtain ⟨k, k1, k2⟩ := h.2.2.2.1 a ha q'
      exact hp k (by omega) a k2 ha b sq
theorem l_begin {this : mF} (hL : L ≤ 100) (h0 : this 0 = nI L) : ∀ (m i fuel : Nat) (seen : mF), i + m = L → m < fuel → OX7_begin_b1 fuel (nI i) this seen ∧ FX7_begin_b1 fuel (nI i) this seen = fun k => if i ≤ k ∧ k < L then 0 else seen k
  | _, _, 0, _, _, h => absurd h (Nat.not_lt_zero _)
  | 0, i, fuel + 1, seen, h, _ => by
    have c : this 0 ≤ nI i := by
      rw [h0]
      exact nI_le (by omega) (by omega)
    rw [OX7_begin_b1, FX7_begin_b1, if_pos c]
    refine ⟨⟨fun _ => trivial, fun z => absurd c z⟩, ?_⟩
    funext k
    rw [if_neg (by omega)]
  | m + 1, i, fuel + 1, seen, h, hf => by
    have c : ¬ this 0 ≤ nI i := by
      rw [h0]
      exact nI_ge (by omega) (by omega)
    have ci : (nI i).toNatClampNeg = i := nI_clamp (by omega)
    have vi : vp_in (nI i) 100 := vp_in_nI (by omega) (by decide)
    obtain ⟨i1, i2⟩ := l_begin (this := this) hL h0 m (i + 1) fuel (upd seen i 0) (by omega) (by omega)
    rw [OX7_begin_b1, FX7_begin_b1, if_neg c, ci, nI_1]
    refine ⟨⟨fun z => absurd z c, fun _ => ⟨vi, i1⟩⟩, i2.trans ?_⟩
    funext k
    simp only [upd_at]
    by_cases q : i + 1 ≤ k ∧ k < L
    · rw [if_pos q, if_pos (show i ≤ k ∧ k < L by omega)]
    · rw [if_neg q]
      by_cases q2 : k = i
      · rw [if_pos q2, if_pos (show i ≤ k ∧ k < L by omega)]
      · rw [if_neg q2, if_neg (show ¬ (i ≤ k ∧ k < L) by omega)]
theorem cnt_z {s : mF} : ∀ L, (∀ i, i < L → s i = 0) → cnt s L = 0
  | 0, _ => rfl
  | k + 1, h => by
    unfold cnt
    rw [cnt_z k (fun i hi => h i (by omega)), if_pos (h k (by omega))]
/-- the list is begun anew: nothing is seen -/
theorem p_wbegin (hL : L ≤ 100) (hp : prg 1 = nI L) : OX7_begin this seen prg ∧ ∃ this' seen', FX7_begin this seen prg = (0, this', seen') ∧ (∀ opn, WL L this' seen' opn) ∧ ∀ i, i < L → seen' i = 0 := by
  have h0 : upd (upd this 0 (prg 1)) 4 0 0 = nI L := (pk_un (by decide)).trans (pk_us.trans hp)
  obtain ⟨q1, q2⟩ := l_begin hL h0 L 0 10000 seen (by omega) (by omega)
  rw [nI_0] at q1 q2
  have hz : ∀ i, i < L → (if 0 ≤ i ∧ i < L then (0 : Int32) else seen i) = 0 := fun i hi => if_pos ⟨Nat.zero_le _, hi⟩
  have hc : cnt (fun k => if 0 ≤ k ∧ k < L then (0 : Int32) else seen k) L = 0 := cnt_z L hz
  refine ⟨q1, upd (upd this 0 (prg 1)) 4 0, (fun k => if 0 ≤ k ∧ k < L then 0 else seen k), ?_, fun opn => ⟨h0, ?_, fun k hk => ?_, fun i hi q => absurd (hz i hi) q, fun i hi => Or.inl (hz i hi)⟩, hz⟩
  · unfold FX7_begin
    rw [q2]
  · rw [pk_us, hc, nI_0]
  · rw [hc] at hk
    exact absurd hk (Nat.not_lt_zero k)
end WYS
