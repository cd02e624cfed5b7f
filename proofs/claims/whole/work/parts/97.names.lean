/-! PURE: the names, laid by both constructors (GENERATED, wip/gen/p/97.py) -/
def tx (si : Nat) : List Nat := (mSb.getD si []).map Int32.toNatClampNeg
theorem tx_ok : ∀ si, si < 6 → ((tx si).length = mSl.getD si 0 ∧ ∀ i, i < (tx si).length → mSc si i = nI ((tx si).getD i 0)) := by decide +kernel
/-- words of a text: each letter is packed ahead of the word's, each blank ends a word -/
def gA : List Nat → Nat → List Nat → mF → Nat × mF
  | [], k, _, f => (k, f)
  | c :: cs, k, w, f => if c = 32 then gA cs (k + 1) [] (upd f k (nI (enc 32 w))) else gA cs k ((c - 96) :: w) f
def gOk : List Nat → Nat → Bool
  | [], _ => true
  | c :: cs, k => decide (k < 43) && (decide (c = 32) || (decide (97 ≤ c) && decide (c ≤ 122))) && gOk cs (if c = 32 then k + 1 else k)
theorem pk_s {a n : Nat} (h : 97 ≤ n) : FX5_pack (nI a) (nI n) = nI (32 * a + (n - 96)) := by
  show nI a * nI 32 + (nI n - nI 97 + 1) = nI (32 * a + (n - 96))
  rw [nI_mul, nI_sub h, nI_1, nI_add]
  congr 1
  omega
theorem gA_run {si : Nat} (hs : mSl.getD si 0 < 1000) : ∀ (cs : List Nat) (n p k : Nat) (w : List Nat) (f : mF), cs.length < n → p + cs.length = mSl.getD si 0 → (∀ i, i < cs.length → mSc si (p + i) = nI (cs.getD i 0)) → gOk cs k = true → FX5_addNames_b1 si n (nI k) (nI (enc 32 w)) (nI p) f = (nI (gA cs k w f).1, (gA cs k w f).2)
  | [], 0, _, _, _, _, hn, _, _, _ => absurd hn (Nat.not_lt_zero _)
  | [], n + 1, p, k, w, f, _, hp, _, _ => by
    rw [List.length_nil] at hp
    rw [FX5_addNames_b1, if_pos (nI_le (by omega) (by omega))]
    rfl
  | c :: cs, 0, _, _, _, _, hn, _, _, _ => absurd hn (Nat.not_lt_zero _)
  | c :: cs, n + 1, p, k, w, f, hn, hp, hc, hk => by
    rw [List.length_cons] at hn hp
    simp only [gOk, Bool.and_eq_true, Bool.or_eq_true, decide_eq_true_eq] at hk
    obtain ⟨⟨k1, k2⟩, k3⟩ := hk
    have c0 := hc 0 (by rw [List.length_cons]; omega)
    rw [Nat.add_zero] at c0
    have c0 : mSc si p = nI c := c0
    have hc' : ∀ i, i < cs.length → mSc si (p + 1 + i) = nI (cs.getD i 0) := fun i hi => by
      have h := hc (i + 1) (by rw [List.length_cons]; omega)
      rw [show p + 1 + i = p + (i + 1) by omega]
      exact h
    have e1 : ¬ nI (mSl.getD si 0) ≤ nI p := fun h => by
      have := (nI_leI (by omega) (by omega)).mp h
      omega
    have e2 : ¬ (43 : Int32) ≤ nI k := fun h => by
      have := (nI_leI (a := 43) (by omega) (by omega)).mp h
      omega
    rw [FX5_addNames_b1, if_neg e1, if_neg e2, nI_clamp (by omega), c0, nI_clamp (by omega), nI_1, nI_1]
    by_cases e : c = 32
    · subst e
      rw [if_pos rfl] at k3
      rw [if_pos (show nI 32 = 32 from rfl)]
      have ih := gA_run hs cs n (p + 1) (k + 1) [] (upd f k (nI (enc 32 w))) (by omega) (by omega) hc' k3
      exact ih
    · rw [if_neg e] at k3
      have e3 : ¬ nI c = 32 := fun h => e ((nI_eq (b := 32) (by omega) (by omega)).mp h)
      rw [if_neg e3]
      have ih := gA_run hs cs n (p + 1) k ((c - 96) :: w) f (by omega) (by omega) hc' k3
      refine Eq.trans ?_ (ih.trans ?_)
      · rw [pk_s (by omega)]
        rfl
      · rw [show gA (c :: cs) k w f = gA cs k ((c - 96) :: w) f from if_neg e]
theorem gA_at {si k : Nat} {f : mF} (hs : si < 6) (h : gOk (tx si) k = true) : FX5_addNames si (nI k) f = (nI (gA (tx si) k [] f).1, (gA (tx si) k [] f).2) := by
  obtain ⟨h1, h2⟩ := tx_ok si hs
  have h3 : ∀ i, i < 6 → mSl.getD i 0 < 1000 := by decide
  have h := gA_run (h3 si hs) (tx si) 10000 0 k [] f (by rw [h1]; have := h3 si hs; omega) (by rw [h1]; omega) (fun i hi => by rw [Nat.zero_add]; exact h2 i hi) h
  rw [FX5_addNames]
  have h : FX5_addNames_b1 si 10000 (nI k) 0 0 f = (nI (gA (tx si) k [] f).1, (gA (tx si) k [] f).2) := h
  rw [h]
/-- the words, their letters last first -/
def gW : List Nat → List Nat → List (List Nat)
  | [], _ => []
  | c :: cs, w => if c = 32 then w :: gW cs [] else gW cs ((c - 96) :: w)
def gwl : List (List Nat) := gW (tx 5) []
def nm0 : mF := (FX5_init_t (fun _ => 0)).2
def gk (i : Nat) : Nat := [0, 10, 18, 27, 39, 43].getD i 0
def gF : Nat → mF
  | 0 => fun _ => 0
  | i + 1 => (gA (tx i) (gk i) [] (gF i)).2
theorem gk_ok : ∀ i, i < 5 → gOk (tx i) (gk i) = true ∧ ∀ f, (gA (tx i) (gk i) [] f).1 = gk (i + 1) := by
  intro i hi
  rcases (show i = 0 ∨ i = 1 ∨ i = 2 ∨ i = 3 ∨ i = 4 by omega) with rfl | rfl | rfl | rfl | rfl <;> exact ⟨by decide +kernel, fun _ => by rfl⟩
theorem nm0_eq : nm0 = gF 5 := by
  have s : ∀ i, i < 5 → ∀ f, FX5_addNames i (nI (gk i)) f = (nI (gk (i + 1)), (gA (tx i) (gk i) [] f).2) := fun i hi f => by
    rw [gA_at (by omega) (gk_ok i hi).1, (gk_ok i hi).2]
  have s0 : FX5_addNames 0 0 (fun _ => 0) = (nI (gk 1), gF 1) := s 0 (by omega) _
  unfold nm0 FX5_init_t
  dsimp only
  rw [s0]
  dsimp only
  rw [s 1 (by omega)]
  dsimp only
  rw [s 2 (by omega)]
  dsimp only
  rw [s 3 (by omega)]
  dsimp only
  rw [s 4 (by omega)]
  rfl
theorem nm0_at : ∀ k, k < 43 → gF 5 k = nI (enc 32 (gwl.getD k [])) := by decide +kernel
def lwB (l : List Nat) : Bool := decide (l.length ≤ 6) && l.all (fun c => decide (1 ≤ c) && decide (c ≤ 26))
theorem gwl_ok : gwl.length = 43 ∧ ∀ w, w ∈ gwl → lwB w = true := by decide +kernel
theorem lwB_ok {l : List Nat} (h : lwB l = true) : l.length ≤ 6 ∧ LW l := by
  simp only [lwB, Bool.and_eq_true, decide_eq_true_eq, List.all_eq_true] at h
  exact ⟨h.1, fun c hc => h.2 c hc⟩
theorem gwl_at {k : Nat} (hk : k < 43) : lwB (gwl.getD k []) = true := by
  rw [List.getD_eq_getElem?_getD, List.getElem?_eq_getElem (by rw [gwl_ok.1]; exact hk)]
  exact gwl_ok.2 _ (List.getElem_mem _)
/-! the reference's -/
def flat : List (List Nat) → List Nat
  | [] => []
  | w :: ws => w.reverse.map (fun c => c + 96) ++ 32 :: flat ws
theorem flat_tx : tx 5 = flat gwl := by decide +kernel
theorem m27_s {a n : Nat} (h : 1 ≤ n) (h2 : n ≤ 26) : ((27 : Int64) * lN a + (nI (n + 96)).toInt64) - (96 : Int64) = lN (27 * a + n) := by
  rw [lN_nI (by omega)]
  show lN 27 * lN a + lN (n + 96) - lN 96 = lN (27 * a + n)
  rw [lN_mul, lN_add, lN_sub (by omega)]
  congr 1
theorem b2_run {y1 : Int32} : ∀ (cs : List Nat) (n p : Nat) (w : List Nat) (f : mF), cs.length < n → f 1 = nI p → LW cs → p + cs.length < 203 → (∀ i, i < cs.length → mSc 5 (p + i) = nI (cs.getD i 0 + 96)) → mSc 5 (p + cs.length) = 32 → OX10_init_t_b2 n y1 (lN (enc 27 w)) f ∧ ∃ f', FX10_init_t_b2 n y1 (lN (enc 27 w)) f = (lN (enc 27 (cs.reverse ++ w)), f') ∧ f' 1 = nI (p + cs.length) ∧ ∀ k, k ≠ 1 → f' k = f k
  | _, 0, _, _, _, hn, _, _, _, _, _ => absurd hn (Nat.not_lt_zero _)
  | [], n + 1, p, w, f, _, h1, _, h3, _, h5 => by
    have h5 : mSc 5 p = 32 := h5
    have h3 : p < 203 := h3
    have c : mSc 5 (f 1).toNatClampNeg = 32 := by rw [h1, nI_clamp (by omega)]; exact h5
    have hv : vp_in (f 1) (mSl.getD 5 0) := by rw [h1]; exact vp_in_nI (N := 203) h3 (by decide)
    rw [OX10_init_t_b2, FX10_init_t_b2, if_pos c]
    exact ⟨⟨hv, fun _ => trivial, fun h => absurd c h⟩, f, rfl, h1, fun _ _ => rfl⟩
  | c :: cs, n + 1, p, w, f, hn, h1, h2, h3, h4, h5 => by
    rw [List.length_cons] at hn h3 h5
    have c0 := h4 0 (by rw [List.length_cons]; omega)
    rw [Nat.add_zero] at c0
    have c0 : mSc 5 p = nI (c + 96) := c0
    have hr := h2 c List.mem_cons_self
    have e : mSc 5 (f 1).toNatClampNeg = nI (c + 96) := by rw [h1, nI_clamp (by omega)]; exact c0
    have hv : vp_in (f 1) (mSl.getD 5 0) := by rw [h1]; exact vp_in_nI (N := 203) (by omega) (by decide)
    have e3 : ¬ nI (c + 96) = 32 := fun h => by
      have := (nI_eq (b := 32) (by omega) (by omega)).mp h
      omega
    obtain ⟨i1, f', i2, i3, i4⟩ := b2_run (y1 := y1) cs n (p + 1) (c :: w) (upd f 1 (f 1 + 1)) (by omega) (by rw [pk_us, h1, nI_1]) (fun x hx => h2 x (List.mem_cons_of_mem _ hx)) (by omega) (fun i hi => by
      have h := h4 (i + 1) (by rw [List.length_cons]; omega)
      rw [show p + 1 + i = p + (i + 1) by omega]
      exact h) (by rw [show p + 1 + cs.length = p + (cs.length + 1) by omega]; exact h5)
    have ea : ((27 : Int64) * lN (enc 27 w) + (nI (c + 96)).toInt64) - (96 : Int64) = lN (enc 27 (c :: w)) := m27_s hr.1 hr.2
    rw [OX10_init_t_b2, FX10_init_t_b2, e, if_neg e3, ea]
    refine ⟨⟨hv, fun h => absurd h e3, fun _ => ⟨hv, i1⟩⟩, f', ?_, ?_, fun k hk => (i4 k hk).trans (pk_un hk)⟩
    · rw [i2]
      congr 3
      simp
    · rw [i3, List.length_cons, show p + 1 + cs.length = p + (cs.length + 1) by omega]
theorem b1_run : ∀ (ws : List (List Nat)) (n i p : Nat) (f : mF) (fl : mFl), i + ws.length = 43 → ws.length < n → f 1 = nI p → p + (flat ws).length = 203 → (∀ j, j < (flat ws).length → mSc 5 (p + j) = nI ((flat ws).getD j 0)) → (∀ w, w ∈ ws → lwB w = true) → OX10_init_t_b1 n (nI i) f fl ∧ ∃ f' fl', FX10_init_t_b1 n (nI i) f fl = (f', fl') ∧ (∀ k, k ≠ 1 → f' k = f k) ∧ (∀ q, q < ws.length → fl' (i + q) = lN (enc 27 (ws.getD q []))) ∧ ∀ q, q < i → fl' q = fl q
  | _, 0, _, _, _, _, _, hn, _, _, _, _ => absurd hn (Nat.not_lt_zero _)
  | [], n + 1, i, p, f, fl, hi, _, _, _, _, _ => by
    have e : (43 : Int32) ≤ nI i := by
      have hi : i + 0 = 43 := hi
      rw [show i = 43 by omega]
      decide
    rw [OX10_init_t_b1, FX10_init_t_b1, if_pos e]
    exact ⟨⟨fun _ => trivial, fun h => absurd e h⟩, f, fl, rfl, fun _ _ => rfl, fun q hq => absurd hq (Nat.not_lt_zero _), fun _ _ => rfl⟩
  | w :: ws, n + 1, i, p, f, fl, hi, hn, h1, h2, h3, h4 => by
    rw [List.length_cons] at hi hn
    have hl : (flat (w :: ws)).length = w.length + 1 + (flat ws).length := by
      rw [flat, List.length_append, List.length_cons, List.length_map, List.length_reverse]
      omega
    rw [hl] at h2 h3
    obtain ⟨hw1, hw2⟩ := lwB_ok (h4 w List.mem_cons_self)
    have e : ¬ (43 : Int32) ≤ nI i := fun h => by
      have := (nI_leI (a := 43) (by omega) (by omega)).mp h
      omega
    have g1 : ∀ j, j < w.length → (flat (w :: ws)).getD j 0 = w.reverse.getD j 0 + 96 := fun j hj => by
      rw [flat, List.getD_eq_getElem?_getD, List.getElem?_append_left (by simpa using hj), List.getElem?_map, List.getD_eq_getElem?_getD, List.getElem?_eq_getElem (by simpa using hj)]
      rfl
    have g2 : (flat (w :: ws)).getD w.length 0 = 32 := by
      rw [flat, List.getD_eq_getElem?_getD, List.getElem?_append_right (by simp)]
      simp
    have g3 : ∀ j, j < (flat ws).length → (flat (w :: ws)).getD (w.length + 1 + j) 0 = (flat ws).getD j 0 := fun j hj => by
      rw [flat, List.getD_eq_getElem?_getD, List.getElem?_append_right (by simp; omega), List.getD_eq_getElem?_getD]
      simp only [List.length_map, List.length_reverse]
      rw [show w.length + 1 + j - w.length = j + 1 by omega]
      rfl
    obtain ⟨a1, f', a2, a3, a4⟩ := b2_run (y1 := nI i) w.reverse 10000 p [] f (by rw [List.length_reverse]; omega) h1 (fun c hc => hw2 c (List.mem_reverse.mp hc)) (by rw [List.length_reverse]; omega) (fun j hj => by
      rw [List.length_reverse] at hj
      rw [h3 j (by omega), g1 j hj]) (by rw [List.length_reverse, h3 w.length (by omega), g2]; rfl)
    rw [List.length_reverse] at a3
    rw [List.reverse_reverse, List.append_nil] at a2
    have a1 : OX10_init_t_b2 10000 (nI i) 0 f := a1
    have a2 : FX10_init_t_b2 10000 (nI i) 0 f = (lN (enc 27 w), f') := a2
    obtain ⟨b1, f2, fl2, b2, b3, b4, b5⟩ := b1_run ws n (i + 1) (p + (w.length + 1)) (upd f' 1 (f' 1 + 1)) (vp_updL fl i (lN (enc 27 w))) (by omega) (by omega) (by rw [pk_us, a3, nI_1]; congr 1) (by omega) (fun j hj => by
      rw [show p + (w.length + 1) + j = p + (w.length + 1 + j) by omega, h3 _ (by omega), g3 j hj]) (fun x hx => h4 x (List.mem_cons_of_mem _ hx))
    rw [OX10_init_t_b1, FX10_init_t_b1, if_neg e, a2, nI_clamp (by omega), nI_1]
    refine ⟨⟨fun h => absurd h e, fun _ => ⟨a1, vp_in_nI (by omega) (by decide), b1⟩⟩, f2, fl2, b2, fun k hk => (b3 k hk).trans ((pk_un hk).trans (a4 k hk)), fun q hq => ?_, fun q hq => (b5 q (by omega)).trans (if_neg (by omega))⟩
    cases q with
    | zero => exact (b5 i (by omega)).trans (if_pos rfl)
    | succ q =>
      rw [List.length_cons] at hq
      rw [show i + (q + 1) = i + 1 + q by omega, b4 q (by omega)]
      rfl
/-- the names of both sides are the same words -/
theorem names_ok (fl : mFl) : OX10_init_t_b1 10000 0 (fun _ => 0) fl ∧ ∃ (f' : mF) (fl' : mFl), FX10_init_t_b1 10000 0 (fun _ => 0) fl = (f', fl') ∧ (∀ k, k ≠ 1 → f' k = 0) ∧ NMS nm0 fl' := by
  have hx := (tx_ok 5 (by decide)).2
  have hl := (tx_ok 5 (by decide)).1
  rw [flat_tx] at hx hl
  obtain ⟨h1, f', fl', h2, h3, h4, h5⟩ := b1_run gwl 10000 0 0 (fun _ => 0) fl (by rw [gwl_ok.1]) (by rw [gwl_ok.1]; decide) rfl (by rw [hl]; rfl) (fun j hj => by rw [Nat.zero_add]; exact hx j hj) gwl_ok.2
  refine ⟨h1, f', fl', h2, h3, fun k hk => ?_⟩
  obtain ⟨q1, q2⟩ := lwB_ok (gwl_at hk)
  have h6 := h4 k (by rw [gwl_ok.1]; exact hk)
  rw [Nat.zero_add] at h6
  exact ⟨(gwl.getD k []).length, q1, gwl.getD k [], q2, rfl, by rw [nm0_eq]; exact nm0_at k hk, h6⟩
