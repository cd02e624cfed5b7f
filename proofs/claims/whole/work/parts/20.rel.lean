/-! PURE: how a machine of the class stands to its block (GENERATED, wip/gen/p/20.py) -/
def RMem (mem g : mF) : Prop := ∀ k, k < 96 → g k = mem k
def RQ (reg g : mF) : Prop := g 98 = reg 14 ∧ g 99 = reg 15 ∧ (¬ reg 14 = -1 → g 100 = reg 16 ∧ isP (reg 16)) ∧ (¬ reg 15 = -1 → g 101 = reg 17 ∧ isP (reg 17))
def ROn (reg g : mF) : Prop := isWv (reg 4) ∧ g 102 = 1 ∧ g 103 = reg 4 ∧ g 104 = reg 5 ∧ (reg 5 = 0 ∨ reg 5 = 1) ∧ g 105 = reg 3 ∧ g 106 = reg 0 ∧ g 107 = reg 1 ∧ g 108 = reg 2 ∧ g 109 = reg 6
def ROff (reg g : mF) : Prop := reg 4 = -1 ∧ g 102 = 0
def RRun (reg g : mF) : Prop := ROff reg g ∨ ROn reg g
def RRest (reg g : mF) : Prop := (reg 11 = -1 ∧ g 110 = 0) ∨ (isWv (reg 11) ∧ reg 12 = 1 ∧ g 110 = 1 ∧ g 111 = reg 11 ∧ g 112 = reg 10 ∧ g 113 = reg 7 ∧ g 114 = reg 8 ∧ g 115 = reg 9 ∧ g 116 = reg 13)
def RClk (reg g : mF) : Prop := g 96 = reg 18 ∧ g 97 = reg 19 ∧ (reg 19 = 0 ∨ reg 19 = 1)
def RT (tz tp tt tb g : mF) : Prop := ∃ s : Nat, s ≤ 12 ∧ tz 0 = nI s ∧ g 117 = nI s ∧ (∀ k, k < s → g (118 + 3 * k) = tp k ∧ g (119 + 3 * k) = tt k ∧ g (120 + 3 * k) = tb k ∧ isP (tp k)) ∧ (∀ k, k < 12 → (tb k = 0 ∨ tb k = 1)) ∧ ∀ i j, i < j → j < s → tp j &&& 1 = 0 → tp i &&& 1 = 0
def RLk (l : mF) (o : Nat) (g : mF) : Prop := (g o = l 0 ∧ (¬ l 0 = -1 → isP (l 0) ∧ g (o + 1) = l 1 ∧ g (o + 2) = l 2 ∧ g (o + 3) = l 3 ∧ ∃ a c : Nat, l 1 = nI a ∧ l 2 = nI c ∧ a + c ≤ 96 ∧ c ≤ 8) ∧ (l 0 = -1 → l 2 = 0)) ∧ (g (o + 4) = l 4 ∧ (¬ l 4 = -1 → isP (l 4) ∧ g (o + 5) = l 5 ∧ g (o + 6) = l 6 ∧ ∃ a c : Nat, l 5 = nI a ∧ l 6 = nI c ∧ 1 ≤ c ∧ c ≤ 8 ∧ a + c ≤ 96) ∧ (l 4 = -1 → l 6 = 0)) ∧ (g (o + 7) = l 7 ∧ (l 7 = 0 ∨ l 7 = 1) ∧ (l 7 = 1 → g (o + 8) = l 8)) ∧ g (o + 9) = l 9 ∧ (¬ l 9 = -1 → isP (l 9))
/-- all but who runs -/
def RB0 (reg mem tz tp tt tb l0 l1 g : mF) : Prop := RMem mem g ∧ RQ reg g ∧ RRest reg g ∧ RClk reg g ∧ RT tz tp tt tb g ∧ RLk l0 154 g ∧ RLk l1 164 g
def RO (reg mem tz tp tt tb l0 l1 g : mF) : Prop := ROn reg g ∧ RB0 reg mem tz tp tt tb l0 l1 g
def RM (reg mem tz tp tt tb l0 l1 g : mF) : Prop := RRun reg g ∧ RB0 reg mem tz tp tt tb l0 l1 g
theorem RMem_c {mem g g' : mF} (h : RMem mem g) (hg : ∀ k, k < 96 → g' k = g k) : RMem mem g' := fun k hk => (hg k hk).trans (h k hk)
theorem RQ_c {reg reg' g g' : mF} (h : RQ reg g) (hr : ∀ k, 14 ≤ k → k < 18 → reg' k = reg k) (hg : ∀ k, 98 ≤ k → k < 102 → g' k = g k) : RQ reg' g' := by
  unfold RQ
  rw [hr 14 (by decide) (by decide), hr 15 (by decide) (by decide), hr 16 (by decide) (by decide), hr 17 (by decide) (by decide), hg 98 (by decide) (by decide), hg 99 (by decide) (by decide), hg 100 (by decide) (by decide), hg 101 (by decide) (by decide)]
  exact h
theorem ROn_c {reg reg' g g' : mF} (h : ROn reg g) (hr : ∀ k, k < 7 → reg' k = reg k) (hg : ∀ k, 102 ≤ k → k < 110 → g' k = g k) : ROn reg' g' := by
  unfold ROn
  rw [hr 0 (by decide), hr 1 (by decide), hr 2 (by decide), hr 3 (by decide), hr 4 (by decide), hr 5 (by decide), hr 6 (by decide), hg 102 (by decide) (by decide), hg 103 (by decide) (by decide), hg 104 (by decide) (by decide), hg 105 (by decide) (by decide), hg 106 (by decide) (by decide), hg 107 (by decide) (by decide), hg 108 (by decide) (by decide), hg 109 (by decide) (by decide)]
  exact h
theorem RRest_c {reg reg' g g' : mF} (h : RRest reg g) (hr : ∀ k, 7 ≤ k → k < 14 → reg' k = reg k) (hg : ∀ k, 110 ≤ k → k < 117 → g' k = g k) : RRest reg' g' := by
  unfold RRest
  rw [hr 7 (by decide) (by decide), hr 8 (by decide) (by decide), hr 9 (by decide) (by decide), hr 10 (by decide) (by decide), hr 11 (by decide) (by decide), hr 12 (by decide) (by decide), hr 13 (by decide) (by decide), hg 110 (by decide) (by decide), hg 111 (by decide) (by decide), hg 112 (by decide) (by decide), hg 113 (by decide) (by decide), hg 114 (by decide) (by decide), hg 115 (by decide) (by decide), hg 116 (by decide) (by decide)]
  exact h
theorem RClk_c {reg reg' g g' : mF} (h : RClk reg g) (hr : ∀ k, 18 ≤ k → k < 20 → reg' k = reg k) (hg : ∀ k, 96 ≤ k → k < 98 → g' k = g k) : RClk reg' g' := by
  unfold RClk
  rw [hr 18 (by decide) (by decide), hr 19 (by decide) (by decide), hg 96 (by decide) (by decide), hg 97 (by decide) (by decide)]
  exact h
theorem RT_c {tz tp tt tb g g' : mF} (h : RT tz tp tt tb g) (hg : ∀ k, 117 ≤ k → k < 154 → g' k = g k) : RT tz tp tt tb g' := by
  obtain ⟨s, h1, h2, h3, h4, h5⟩ := h
  refine ⟨s, h1, h2, (hg _ (by decide) (by decide)).trans h3, fun k hk => ?_, h5⟩
  rw [hg _ (by omega) (by omega), hg _ (by omega) (by omega), hg _ (by omega) (by omega)]
  exact h4 k hk
theorem RLk_c {l g g' : mF} {o : Nat} (h : RLk l o g) (hg : ∀ k, o ≤ k → k < o + 10 → g' k = g k) : RLk l o g' := by
  unfold RLk
  rw [hg o (by omega) (by omega), hg (o + 1) (by omega) (by omega), hg (o + 2) (by omega) (by omega), hg (o + 3) (by omega) (by omega), hg (o + 4) (by omega) (by omega), hg (o + 5) (by omega) (by omega), hg (o + 6) (by omega) (by omega), hg (o + 7) (by omega) (by omega), hg (o + 8) (by omega) (by omega), hg (o + 9) (by omega) (by omega)]
  exact h
/-- a step that touches the registers of who runs alone (and the words around) -/
theorem RB0_c {reg reg' mem tz tp tt tb l0 l1 g g' : mF} (h : RB0 reg mem tz tp tt tb l0 l1 g) (hr : ∀ k, 7 ≤ k → reg' k = reg k) (hg : ∀ k, k < 102 ∨ 110 ≤ k → g' k = g k) : RB0 reg' mem tz tp tt tb l0 l1 g' := by
  obtain ⟨h1, h2, h3, h4, h5, h6, h7⟩ := h
  exact ⟨RMem_c h1 (fun k hk => hg k (by omega)), RQ_c h2 (fun k a b => hr k (by omega)) (fun k a b => hg k (by omega)), RRest_c h3 (fun k a b => hr k (by omega)) (fun k a b => hg k (by omega)), RClk_c h4 (fun k a b => hr k (by omega)) (fun k a b => hg k (by omega)), RT_c h5 (fun k a b => hg k (by omega)), RLk_c h6 (fun k a b => hg k (by omega)), RLk_c h7 (fun k a b => hg k (by omega))⟩
/-- a step of the queues and the words -/
theorem RB0_q {reg reg' mem mem' tz tp tt tb l0 l1 g g' : mF} (h : RB0 reg mem tz tp tt tb l0 l1 g) (hm : RMem mem' g') (hq : RQ reg' g') (hr : ∀ k, k < 14 ∨ 18 ≤ k → reg' k = reg k) (hg : ∀ k, k = 96 ∨ k = 97 ∨ 102 ≤ k → g' k = g k) : RB0 reg' mem' tz tp tt tb l0 l1 g' := by
  obtain ⟨h1, h2, h3, h4, h5, h6, h7⟩ := h
  exact ⟨hm, hq, RRest_c h3 (fun k a b => hr k (by omega)) (fun k a b => hg k (by omega)), RClk_c h4 (fun k a b => hr k (by omega)) (fun k a b => hg k (by omega)), RT_c h5 (fun k a b => hg k (by omega)), RLk_c h6 (fun k a b => hg k (by omega)), RLk_c h7 (fun k a b => hg k (by omega))⟩
theorem RB0_m {reg mem tz tp tt tb l0 l1 g : mF} {k : Nat} {x : Int32} (hk : k < 96) (h : RB0 reg mem tz tp tt tb l0 l1 g) : RB0 reg (upd mem k x) tz tp tt tb l0 l1 (upd g k x) := by
  have hm : RMem (upd mem k x) (upd g k x) := fun j hj => by
    simp only [upd_at]
    split
    · rfl
    · exact h.1 j hj
  exact RB0_q h hm (RQ_c h.2.1 (fun _ _ _ => rfl) (fun j a b => pk_un (by omega))) (fun _ _ => rfl) (fun j a => pk_un (by omega))
theorem ROn_m {reg g : mF} {k : Nat} {x : Int32} (hk : k < 96) (h : ROn reg g) : ROn reg (upd g k x) := ROn_c h (fun _ _ => rfl) (fun j a b => pk_un (by omega))
theorem RO_m {reg mem tz tp tt tb l0 l1 g : mF} {k : Nat} {x : Int32} (hk : k < 96) (h : RO reg mem tz tp tt tb l0 l1 g) : RO reg (upd mem k x) tz tp tt tb l0 l1 (upd g k x) := ⟨ROn_m hk h.1, RB0_m hk h.2⟩
theorem RMem_u {mem g : mF} {k : Nat} {x : Int32} (h : RMem mem g) : RMem (upd mem k x) (upd g k x) := fun j hj => by
  simp only [upd_at]
  split
  · rfl
  · exact h j hj
/-- one register of who runs -/
theorem RO_A {reg mem tz tp tt tb l0 l1 g : mF} {x : Int32} (h : RO reg mem tz tp tt tb l0 l1 g) : RO (upd reg 0 x) mem tz tp tt tb l0 l1 (upd g 106 x) := by
  refine ⟨?_, RB0_c h.2 (fun k hk => pk_un (by omega)) (fun k hk => pk_un (by omega))⟩
  obtain ⟨h1, h2, h3, h4, h5, h6, h7, h8, h9, h10⟩ := h.1
  refine ⟨?_, ?_, ?_, ?_, ?_, ?_, ?_, ?_, ?_, ?_⟩ <;> simp only [upd_at] <;> first | rfl | assumption
theorem RO_B {reg mem tz tp tt tb l0 l1 g : mF} {x : Int32} (h : RO reg mem tz tp tt tb l0 l1 g) : RO (upd reg 1 x) mem tz tp tt tb l0 l1 (upd g 107 x) := by
  refine ⟨?_, RB0_c h.2 (fun k hk => pk_un (by omega)) (fun k hk => pk_un (by omega))⟩
  obtain ⟨h1, h2, h3, h4, h5, h6, h7, h8, h9, h10⟩ := h.1
  refine ⟨?_, ?_, ?_, ?_, ?_, ?_, ?_, ?_, ?_, ?_⟩ <;> simp only [upd_at] <;> first | rfl | assumption
theorem RO_C {reg mem tz tp tt tb l0 l1 g : mF} {x : Int32} (h : RO reg mem tz tp tt tb l0 l1 g) : RO (upd reg 2 x) mem tz tp tt tb l0 l1 (upd g 108 x) := by
  refine ⟨?_, RB0_c h.2 (fun k hk => pk_un (by omega)) (fun k hk => pk_un (by omega))⟩
  obtain ⟨h1, h2, h3, h4, h5, h6, h7, h8, h9, h10⟩ := h.1
  refine ⟨?_, ?_, ?_, ?_, ?_, ?_, ?_, ?_, ?_, ?_⟩ <;> simp only [upd_at] <;> first | rfl | assumption
theorem RO_I {reg mem tz tp tt tb l0 l1 g : mF} {x : Int32} (h : RO reg mem tz tp tt tb l0 l1 g) : RO (upd reg 3 x) mem tz tp tt tb l0 l1 (upd g 105 x) := by
  refine ⟨?_, RB0_c h.2 (fun k hk => pk_un (by omega)) (fun k hk => pk_un (by omega))⟩
  obtain ⟨h1, h2, h3, h4, h5, h6, h7, h8, h9, h10⟩ := h.1
  refine ⟨?_, ?_, ?_, ?_, ?_, ?_, ?_, ?_, ?_, ?_⟩ <;> simp only [upd_at] <;> first | rfl | assumption
theorem RO_D {reg mem tz tp tt tb l0 l1 g : mF} {x : Int32} (h : RO reg mem tz tp tt tb l0 l1 g) : RO (upd reg 6 x) mem tz tp tt tb l0 l1 (upd g 109 x) := by
  refine ⟨?_, RB0_c h.2 (fun k hk => pk_un (by omega)) (fun k hk => pk_un (by omega))⟩
  obtain ⟨h1, h2, h3, h4, h5, h6, h7, h8, h9, h10⟩ := h.1
  refine ⟨?_, ?_, ?_, ?_, ?_, ?_, ?_, ?_, ?_, ?_⟩ <;> simp only [upd_at] <;> first | rfl | assumption
theorem RO_W {reg mem tz tp tt tb l0 l1 g : mF} {x : Int32} (hx : isWv x) (h : RO reg mem tz tp tt tb l0 l1 g) : RO (upd reg 4 x) mem tz tp tt tb l0 l1 (upd g 103 x) := by
  refine ⟨?_, RB0_c h.2 (fun k hk => pk_un (by omega)) (fun k hk => pk_un (by omega))⟩
  obtain ⟨h1, h2, h3, h4, h5, h6, h7, h8, h9, h10⟩ := h.1
  refine ⟨?_, ?_, ?_, ?_, ?_, ?_, ?_, ?_, ?_, ?_⟩ <;> simp only [upd_at] <;> first | rfl | assumption
theorem RM_off {reg mem tz tp tt tb l0 l1 g : mF} (h : RO reg mem tz tp tt tb l0 l1 g) : RM (upd reg 4 (-1)) mem tz tp tt tb l0 l1 (upd g 102 0) :=
  ⟨Or.inl ⟨pk_us, pk_us⟩, RB0_c h.2 (fun k hk => pk_un (by omega)) (fun k hk => pk_un (by omega))⟩
theorem RO.M {reg mem tz tp tt tb l0 l1 g : mF} (h : RO reg mem tz tp tt tb l0 l1 g) : RM reg mem tz tp tt tb l0 l1 g := ⟨Or.inr h.1, h.2⟩
theorem wS1' {w : Int32} (h : isWv w) : isPl (w - 1) := wSub h 1 (by decide)
section OPS
variable {f n g reg mem tz tp tt tb l0 l1 : mF} {b : Nat} {z : Int32}
theorem push_e (H : Hb f b) {x : Int32} : FX10_push x (fb f z) (emb b n g) = (0, emb b n (upd (upd (upd g 108 (g 107)) 107 (g 106)) 106 x)) := by
  simp only [FX10_push, g107 H, s108 H, g106 H, s107 H, s106 H]
  simp only [upd_at]
  rfl
theorem opush (H : Hb f b) {x : Int32} {m : mF} : OX10_push x (fb f z) m = True := by
  simp only [OX10_push, og107 H, os108 H, og106 H, os107 H, os106 H, and_self]
theorem RO_push {x : Int32} (h : RO reg mem tz tp tt tb l0 l1 g) : RO (FX3_push x reg).2 mem tz tp tt tb l0 l1 (upd (upd (upd g 108 (g 107)) 107 (g 106)) 106 x) := by
  rw [h.1.2.2.2.2.2.2.1, h.1.2.2.2.2.2.2.2.1]
  exact RO_A (RO_B (RO_C h))
theorem pop_e (H : Hb f b) : FX10_pop (fb f z) (emb b n g) = (0, emb b n (upd (upd g 106 (g 107)) 107 (g 108))) := by
  simp only [FX10_pop, g107 H, s106 H, g108 H, s107 H]
  simp only [upd_at]
  rfl
theorem opop (H : Hb f b) {m : mF} : OX10_pop (fb f z) m = True := by
  simp only [OX10_pop, og107 H, os106 H, og108 H, os107 H, and_self]
theorem RO_pop (h : RO reg mem tz tp tt tb l0 l1 g) : RO (FX3_pop reg).2 mem tz tp tt tb l0 l1 (upd (upd g 106 (g 107)) 107 (g 108)) := by
  rw [h.1.2.2.2.2.2.2.2.1, h.1.2.2.2.2.2.2.2.2.1]
  exact RO_B (RO_A h)
theorem clears_e (H : Hb f b) : FX10_clears (fb f z) (emb b n g) = (0, emb b n (upd (upd (upd g 106 0) 107 0) 108 0)) := by
  simp only [FX10_clears, s106 H, s107 H, s108 H]
theorem oclears (H : Hb f b) {m : mF} : OX10_clears (fb f z) m = True := by
  simp only [OX10_clears, os106 H, os107 H, os108 H, and_self]
theorem RO_clear (h : RO reg mem tz tp tt tb l0 l1 g) : RO (FX3_clear reg).2 mem tz tp tt tb l0 l1 (upd (upd (upd g 106 0) 107 0) 108 0) := RO_C (RO_B (RO_A h))
theorem RM_clear (h : RM reg mem tz tp tt tb l0 l1 g) : RM (FX3_clear reg).2 mem tz tp tt tb l0 l1 (upd (upd (upd g 106 0) 107 0) 108 0) := by
  rcases h.1 with h1 | h1
  · refine ⟨Or.inl ⟨?_, ?_⟩, RB0_c h.2 (fun k hk => ?_) (fun k hk => ?_)⟩
    · exact h1.1
    · exact h1.2
    · show upd (upd (upd reg 0 0) 1 0) 2 0 k = reg k
      rw [pk_un (by omega), pk_un (by omega), pk_un (by omega)]
    · rw [pk_un (by omega), pk_un (by omega), pk_un (by omega)]
  · exact (RO_clear ⟨h1, h.2⟩).M
theorem joined_e (H : Hb f b) {x : Int32} : FX10_joined x (fb f z) (emb b n g) = (0, emb b n (upd (upd g 106 x) 107 (g 108))) := by
  simp only [FX10_joined, s106 H, g108 H, s107 H]
  simp only [upd_at]
  rfl
theorem ojoined (H : Hb f b) {x : Int32} {m : mF} : OX10_joined x (fb f z) m = True := by
  simp only [OX10_joined, os106 H, og108 H, os107 H, and_self]
theorem RO_joined {x : Int32} (h : RO reg mem tz tp tt tb l0 l1 g) : RO (upd (upd reg 0 x) 1 (upd reg 0 x 2)) mem tz tp tt tb l0 l1 (upd (upd g 106 x) 107 (g 108)) := by
  rw [h.1.2.2.2.2.2.2.2.2.1, show upd reg 0 x 2 = reg 2 from rfl]
  exact RO_B (RO_A h)
theorem own_e (H : Hb f b) : FX10_own (fb f z) (emb b n g) = 2 * g 103 + g 104 := by
  simp only [FX10_own, g103 H, g104 H]
theorem oown (H : Hb f b) {m : mF} : OX10_own (fb f z) m = True := by
  simp only [OX10_own, og103 H, og104 H, and_self]
theorem own_R (h : ROn reg g) : 2 * g 103 + g 104 = FX3_own reg ∧ isP (FX3_own reg) ∧ FX3_own reg / 2 = reg 4 ∧ FX3_own reg &&& 1 = reg 5 := by
  obtain ⟨h1, h2, h3, h4, h5, -⟩ := h
  rw [h3, h4]
  exact ⟨rfl, pMk h1 h5⟩
theorem off_e (H : Hb f b) (h : ROn reg g) : FX10_off (fb f 0) (emb b n g) = (0, fb f 0, emb b n (upd (upd g (reg 4 - 1).toNatClampNeg (reg 3)) 102 0)) := by
  simp only [FX10_off, g103 H, g105 H]
  rw [h.2.2.1, h.2.2.2.2.2.1, lay_ok H (wS1' h.1)]
  simp only [s102 H]
theorem ooff (H : Hb f b) (hz : z = 0 ∨ z = 1) {m : mF} : OX10_off (fb f z) m = True := by
  simp only [OX10_off, og103 H, og105 H, olay H hz, true_and]
  refine eq_true ?_
  have e : ∀ x v, (FX10_lay x v (fb f z) m).2.1 = fb f z ∨ (FX10_lay x v (fb f z) m).2.1 = fb f 1 := by
    intro x v
    unfold FX10_lay
    dsimp only
    by_cases hp : isPl x
    · rw [isPlace10_1 hp]
      rcases hz with rfl | rfl
      · rw [needs_ok (by decide)]; exact Or.inl (by split <;> rfl)
      · rw [needs_1]; exact Or.inl (by split <;> rfl)
    · rw [isPlace10_0 hp, needs_bad]
      exact Or.inr (by split <;> rfl)
  rcases e (FX10_get 103 (fb f z) m - 1) (FX10_get 105 (fb f z) m) with h | h <;> rw [h] <;> rw [os102 H] <;> trivial
theorem RM_goOff (h : RO reg mem tz tp tt tb l0 l1 g) : OX3_goOff reg mem ∧ RM (FX3_goOff reg mem).2.1 (FX3_goOff reg mem).2.2 tz tp tt tb l0 l1 (upd (upd g (reg 4 - 1).toNatClampNeg (reg 3)) 102 0) := by
  have hp := wS1' h.1.1
  exact ⟨pl_vp hp, RM_off (RO_m (pl_cl hp).1 h)⟩
end OPS
