/-! PURE: words that go over at a channel (GENERATED, wip/gen/p/27.py) -/
def isAr (q : Int32) (c : Nat) : Prop := ∃ a : Nat, q = nI a ∧ a + c ≤ 96
def Keep (b : Nat) (n n' : mF) : Prop := ∀ k, k < 350 → (k < b ∨ b + 174 ≤ k) → n' k = n k
theorem Keep.refl {b : Nat} {n : mF} : Keep b n n := fun _ _ _ => rfl
theorem ar_1 {q : Int32} {c : Nat} (hc : c ≤ 96) (h : isAr q c) : FX9_arePlaces q (nI c) = 1 := by
  obtain ⟨a, rfl, ha⟩ := h
  have e : (96 : Int32) - nI c = nI (96 - c) := nI_sub (a := 96) hc
  unfold FX9_arePlaces
  rw [e, if_neg (nI_pos (by omega)), if_neg (nI_nlt (by omega) (by omega))]
theorem ar_0 {q : Int32} {c : Nat} (hc : c ≤ 96) (h : ¬ isAr q c) : FX9_arePlaces q (nI c) = 0 := by
  have e : (96 : Int32) - nI c = nI (96 - c) := nI_sub (a := 96) hc
  unfold FX9_arePlaces
  by_cases h1 : q < 0
  · rw [if_pos h1]
  · rw [if_neg h1, e]
    obtain ⟨k, hk, rfl⟩ := nI_of h1
    rw [if_pos]
    rcases Nat.lt_or_ge (96 - c) k with z | z
    · exact nI_lt z hk
    · exact absurd ⟨k, rfl, by omega⟩ h
theorem isAr.pl {q : Int32} {c k : Nat} (h : isAr q c) (hk : k < c) : isPl (q + nI k) := by
  obtain ⟨a, rfl, ha⟩ := h
  exact ⟨a + k, by omega, nI_add a k⟩
theorem isAr.pl0 {q : Int32} {c : Nat} (h : isAr q c) (hc : 1 ≤ c) : isPl q := by
  obtain ⟨a, rfl, ha⟩ := h
  exact ⟨a, by omega, rfl⟩
theorem ar_no {q : Int32} {c : Nat} (hc : 1 ≤ c) (h8 : c ≤ 8) (h : ¬ isAr q c) (hp : isPl q) : ¬ isPl (q + nI (c - 1)) := by
  rintro ⟨j, hj, e⟩
  obtain ⟨a, ha, rfl⟩ := hp
  rw [nI_add] at e
  have := (nI_eq (by omega) (by omega)).mp e
  exact h ⟨a, rfl, by omega⟩
theorem ar_e {q : Int32} {c : Nat} (hc : 1 ≤ c) (hp : isPl q) : (q + nI c) - 1 = q + nI (c - 1) := by
  obtain ⟨a, ha, rfl⟩ := hp
  rw [nI_add, nI_add, show nI (a + c) - 1 = nI (a + c - 1) from nI_sub (a := a + c) (c := 1) (by omega), show a + c - 1 = a + (c - 1) by omega]
section CPY
variable {f n g reg mem tz tp tt tb l0 l1 dia mt : mF} {b : Nat}
theorem cp_1 {fuel : Nat} {y1 y2 y3 y4 y5 y6 y7 y8 : Int32} : OX10_copies_b3 (fuel + 1) y1 y2 y3 y4 y5 y6 y7 y8 (fb f 1) (emb b n g) ∧ FX10_copies_b3 (fuel + 1) y1 y2 y3 y4 y5 y6 y7 y8 (fb f 1) (emb b n g) = (fb f 1, emb b n g) := by
  rw [OX10_copies_b3, FX10_copies_b3]
  by_cases c : y6 ≤ y8
  · rw [if_pos c]
    exact ⟨⟨fun _ => trivial, fun h => absurd c h⟩, rfl⟩
  · rw [if_neg c, if_neg (show ¬ fb f 1 46 = 0 by rw [fb_46]; decide)]
    exact ⟨⟨fun h => absurd h c, fun _ => ⟨fun h => absurd (fb_46.symm.trans h) (by decide), fun _ => trivial⟩⟩, rfl⟩
theorem cp_ok (H : Hb f b) {s d : Int32} {c : Nat} (hs : isAr s c) (hd : isAr d c) {y1 y2 y3 y7 z2 z3 dir : Int32} (hdir : ¬ dir = 0) : ∀ (m i fuel : Nat) (g mem : mF), i + m = c → m < fuel → RMem mem g → OX10_copies_b3 fuel y1 y2 y3 s d (nI c) y7 (nI i) (fb f 0) (emb b n g) ∧ OX3_meet_b1 fuel 0 z2 z3 (nI c) d s (nI i) mem ∧ OX3_meet_b1 fuel dir z2 z3 (nI c) s d (nI i) mem ∧ ∃ g' mem', FX10_copies_b3 fuel y1 y2 y3 s d (nI c) y7 (nI i) (fb f 0) (emb b n g) = (fb f 0, emb b n g') ∧ FX3_meet_b1 fuel 0 z2 z3 (nI c) d s (nI i) mem = mem' ∧ FX3_meet_b1 fuel dir z2 z3 (nI c) s d (nI i) mem = mem' ∧ RMem mem' g' ∧ ∀ k, 96 ≤ k → g' k = g k
  | _, _, 0, _, _, _, h, _ => absurd h (Nat.not_lt_zero _)
  | 0, i, fuel + 1, g, mem, h, _, hm => by
    have cc : c ≤ 96 := by obtain ⟨a, -, h⟩ := hs; omega
    have c1 : nI c ≤ nI i := nI_le (by omega) (by omega)
    rw [OX10_copies_b3, FX10_copies_b3, OX3_meet_b1, OX3_meet_b1, FX3_meet_b1, FX3_meet_b1, if_pos c1, if_pos c1, if_pos c1]
    exact ⟨⟨fun _ => trivial, fun h => absurd c1 h⟩, ⟨fun _ => trivial, fun h => absurd c1 h⟩, ⟨fun _ => trivial, fun h => absurd c1 h⟩, g, mem, rfl, rfl, rfl, hm, fun _ _ => rfl⟩
  | m + 1, i, fuel + 1, g, mem, h, hf, hm => by
    have cc : c ≤ 96 := by obtain ⟨a, -, h⟩ := hs; omega
    have c1 : ¬ nI c ≤ nI i := nI_ge (by omega) (by omega)
    have ps := hs.pl (show i < c by omega)
    have pd := hd.pl (show i < c by omega)
    have es := hm _ (pl_cl ps).1
    obtain ⟨r1, r2, r3, g', mem', r4, r5, r6, r7, r8⟩ := cp_ok (y1 := y1) (y2 := y2) (y3 := y3) (y7 := y7) (z2 := z2) (z3 := z3) H hs hd hdir m (i + 1) fuel (upd g (d + nI i).toNatClampNeg (g (s + nI i).toNatClampNeg)) (upd mem (d + nI i).toNatClampNeg (g (s + nI i).toNatClampNeg)) (by omega) (by omega) (RMem_u hm)
    refine ⟨?_, ?_, ?_, g', mem', ?_, ?_, ?_, r7, fun k hk => (r8 k hk).trans (pk_un (by have := (pl_cl pd).1; omega))⟩
    · rw [OX10_copies_b3]
      simp (decide := true) only [c1, fb_46, oat H (Or.inl rfl), at_ok H ps, olay H (Or.inl rfl), lay_ok H pd, nI_1, r1, if_true, if_false, true_implies, false_implies, implies_true, not_true_eq_false, not_false_eq_true, and_true, true_and, and_self, or_true, true_or]
    · rw [OX3_meet_b1]
      simp (decide := true) only [c1, pl_vp ps, pl_vp pd, ← es, nI_1, r2, if_true, if_false, true_implies, false_implies, implies_true, not_true_eq_false, not_false_eq_true, and_true, true_and, and_self, or_true, true_or]
    · rw [OX3_meet_b1]
      simp (decide := true) only [c1, hdir, pl_vp ps, pl_vp pd, ← es, nI_1, r3, if_true, if_false, true_implies, false_implies, implies_true, not_true_eq_false, not_false_eq_true, and_true, true_and, and_self, or_true, true_or]
    · rw [FX10_copies_b3]
      simp (decide := true) only [c1, fb_46, at_ok H ps, lay_ok H pd, nI_1, r4, if_true, if_false]
    · rw [FX3_meet_b1]
      simp (decide := true) only [c1, ← es, nI_1, r5, if_true, if_false]
    · rw [FX3_meet_b1]
      simp (decide := true) only [c1, hdir, ← es, nI_1, r6, if_true, if_false]
theorem cp_no (H : Hb f b) {s d : Int32} {c : Nat} (hc : c ≤ 96) {y1 y2 y3 y7 : Int32} : ∀ (m i fuel : Nat) (g : mF), i + m = c → m + 1 < fuel → (∃ k, i ≤ k ∧ k < c ∧ (¬ isPl (s + nI k) ∨ ¬ isPl (d + nI k))) → OX10_copies_b3 fuel y1 y2 y3 s d (nI c) y7 (nI i) (fb f 0) (emb b n g) ∧ ∃ g', FX10_copies_b3 fuel y1 y2 y3 s d (nI c) y7 (nI i) (fb f 0) (emb b n g) = (fb f 1, emb b n g')
  | _, _, 0, _, _, h, _ => absurd h (Nat.not_lt_zero _)
  | _, _, 1, _, _, h, _ => absurd h (by omega)
  | 0, i, fuel + 2, g, h, _, hk => by
    obtain ⟨k, k1, k2, -⟩ := hk
    omega
  | m + 1, i, fuel + 2, g, h, hf, hk => by
    have c1 : ¬ nI c ≤ nI i := nI_ge (by omega) (by omega)
    rw [OX10_copies_b3, FX10_copies_b3]
    by_cases ps : isPl (s + nI i)
    · by_cases pd : isPl (d + nI i)
      · obtain ⟨r1, g', r2⟩ := cp_no (y1 := y1) (y2 := y2) (y3 := y3) (y7 := y7) H hc m (i + 1) (fuel + 1) (upd g (d + nI i).toNatClampNeg (g (s + nI i).toNatClampNeg)) (by omega) (by omega) (by
          obtain ⟨k, k1, k2, k3⟩ := hk
          refine ⟨k, ?_, k2, k3⟩
          rcases Nat.eq_or_lt_of_le k1 with e | e
          · subst e
            rcases k3 with k3 | k3
            · exact absurd ps k3
            · exact absurd pd k3
          · exact e)
        exact ⟨by simp (decide := true) only [c1, fb_46, oat H (Or.inl rfl), at_ok H ps, olay H (Or.inl rfl), lay_ok H pd, nI_1, r1, if_true, if_false, true_implies, false_implies, implies_true, not_true_eq_false, not_false_eq_true, and_true, true_and, and_self, or_true, true_or], g', by simp (decide := true) only [c1, fb_46, at_ok H ps, lay_ok H pd, nI_1, r2, if_true, if_false]⟩
      · exact ⟨by simp (decide := true) only [c1, fb_46, oat H (Or.inl rfl), at_ok H ps, olay H (Or.inl rfl), lay_no pd, cp_1.1, if_true, if_false, true_implies, false_implies, implies_true, not_true_eq_false, not_false_eq_true, and_true, true_and, and_self, or_true, true_or], g, by simp (decide := true) only [c1, fb_46, at_ok H ps, lay_no pd, cp_1.2, if_true, if_false]⟩
    · obtain ⟨g', r1, -⟩ := lay_1 (n := n) (g := g) H (d + nI i) 0
      exact ⟨by simp (decide := true) only [c1, fb_46, oat H (Or.inl rfl), at_no ps, olay H (Or.inr rfl), r1, cp_1.1, if_true, if_false, true_implies, false_implies, implies_true, not_true_eq_false, not_false_eq_true, and_true, true_and, and_self, or_true, true_or], g', by simp (decide := true) only [c1, fb_46, at_no ps, r1, cp_1.2, if_true, if_false]⟩
theorem cp_b4 {y1 y2 y3 y6 y7 : Int32} {m : mF} : OX10_copies_b4 y1 y2 y3 y6 y7 (fb f 1) m ∧ FX10_copies_b4 y1 y2 y3 y6 y7 (fb f 1) m = (0, fb f 1, m) := by
  have h1 : ¬ fb f 1 46 = 0 := by rw [fb_46]; decide
  rw [OX10_copies_b4, FX10_copies_b4, if_neg h1]
  exact ⟨⟨fun h => absurd h h1, fun _ => trivial⟩, rfl⟩
/-- nothing goes over for one that is bad -/
theorem cps_1 {x1 x2 x3 x4 x5 x6 x7 : Int32} : OX10_copies x1 x2 x3 x4 x5 x6 x7 (fb f 1) (emb b n g) ∧ FX10_copies x1 x2 x3 x4 x5 x6 x7 (fb f 1) (emb b n g) = (0, fb f 1, emb b n g) := by
  have a := @cp_1 f n g b 9999 x1 x2 x3 x4 x5 x6 x7 0
  have a1 : OX10_copies_b3 10000 x1 x2 x3 x4 x5 x6 x7 0 (fb f 1) (emb b n g) := a.1
  have a2 : FX10_copies_b3 10000 x1 x2 x3 x4 x5 x6 x7 0 (fb f 1) (emb b n g) = (fb f 1, emb b n g) := a.2
  have b4 := fun m => @cp_b4 f x1 x2 x3 x6 x7 m
  constructor
  · simp only [OX10_copies, needs_1, a1, a2, (b4 _).1, implies_true, and_true, true_and, and_self]
  · simp only [FX10_copies, needs_1, a2, (b4 _).2, ite_self]
theorem cps_no (H : Hb f b) {x1 x2 x3 x4 x5 x7 : Int32} {c : Nat} (h1 : 1 ≤ c) (h8 : c ≤ 8) (h : ¬ isAr x4 c ∨ ¬ isAr x5 c) : OX10_copies x1 x2 x3 x4 x5 (nI c) x7 (fb f 0) (emb b n g) ∧ ∃ g', FX10_copies x1 x2 x3 x4 x5 (nI c) x7 (fb f 0) (emb b n g) = (0, fb f 1, emb b n g') := by
  have a := @cp_1 f n g b 9999 x1 x2 x3 x4 x5 (nI c) x7 0
  have a1 : OX10_copies_b3 10000 x1 x2 x3 x4 x5 (nI c) x7 0 (fb f 1) (emb b n g) := a.1
  have a2 : FX10_copies_b3 10000 x1 x2 x3 x4 x5 (nI c) x7 0 (fb f 1) (emb b n g) = (fb f 1, emb b n g) := a.2
  have b4 := fun m => @cp_b4 f x1 x2 x3 (nI c) x7 m
  by_cases p4 : isPl x4
  · by_cases p5 : isPl x5
    · obtain ⟨r1, g', r2⟩ := cp_no (n := n) (y1 := x1) (y2 := x2) (y3 := x3) (y7 := x7) H (show c ≤ 96 by omega) c 0 10000 g (by omega) (by omega) (s := x4) (d := x5) ⟨c - 1, by omega, by omega, by
        rcases h with h | h
        · exact Or.inl (ar_no h1 h8 h p4)
        · exact Or.inr (ar_no h1 h8 h p5)⟩
      rw [nI_0] at r1 r2
      refine ⟨?_, g', ?_⟩
      · simp (decide := true) only [OX10_copies, isPlace10_1 p4, isPlace10_1 p5, needs_ok one0, r1, r2, (b4 _).1, if_true, if_false, true_implies, false_implies, implies_true, not_true_eq_false, not_false_eq_true, and_true, true_and, and_self, or_true, true_or]
      · simp (decide := true) only [FX10_copies, isPlace10_1 p4, isPlace10_1 p5, needs_ok one0, r2, (b4 _).2, if_true, if_false]
    · refine ⟨?_, g, ?_⟩
      · simp (decide := true) only [OX10_copies, isPlace10_1 p4, isPlace10_0 p5, needs_bad, a1, a2, (b4 _).1, if_true, if_false, true_implies, false_implies, implies_true, not_true_eq_false, not_false_eq_true, and_true, true_and, and_self, or_true, true_or]
      · simp (decide := true) only [FX10_copies, isPlace10_1 p4, isPlace10_0 p5, needs_bad, a2, (b4 _).2, if_true, if_false]
  · refine ⟨?_, g, ?_⟩
    · simp (decide := true) only [OX10_copies, isPlace10_0 p4, needs_bad, a1, a2, (b4 _).1, if_true, if_false, true_implies, false_implies, implies_true, not_true_eq_false, not_false_eq_true, and_true, true_and, and_self, or_true, true_or]
    · simp (decide := true) only [FX10_copies, isPlace10_0 p4, needs_bad, a2, (b4 _).2, if_true, if_false]
/-- a meeting: it receives -/
theorem p_meet_r (H : Hb f b) (h : RW reg g) (h2 : RB0 reg mem tz tp tt tb l0 l1 g) {T : Nat} (hT : T < 2 ^ 30) (hd : RD dia mt n T) {dir place p C q : Int32} {th : mF} {c : Nat} (hdir : dir = 0) (hp : isP p) (hx : isPl place) (hc : 1 ≤ c) (hC : isAr C c) (hq : isAr q c) (eq : mem (p / 2 - 3).toNatClampNeg = q) : OX3_meet dir place p (nI c) C th reg mem dia mt ∧ OX10_copies (th 0) place p q C (nI c) dir (fb f 0) (emb b n g) ∧ ∃ n' g', FX10_copies (th 0) place p q C (nI c) dir (fb f 0) (emb b n g) = (0, fb f 0, emb b n' g') ∧ RW (FX3_meet dir place p (nI c) C th reg mem dia mt).2.1 g' ∧ RB0 (FX3_meet dir place p (nI c) C th reg mem dia mt).2.1 (FX3_meet dir place p (nI c) C th reg mem dia mt).2.2.1 tz tp tt tb l0 l1 g' ∧ RD (FX3_meet dir place p (nI c) C th reg mem dia mt).2.2.2.1 (FX3_meet dir place p (nI c) C th reg mem dia mt).2.2.2.2 n' (T + 1) ∧ Keep b n n' ∧ ∀ k, k < 3 → (FX3_meet dir place p (nI c) C th reg mem dia mt).2.1 k = reg k := by
  obtain ⟨l1', l2, l3, g1, mem1, l4, l5, l6, l7, l8⟩ := cp_ok (n := n) (y1 := th 0) (y2 := place) (y3 := p) (y7 := dir) (z2 := place) (z3 := p) (s := q) (d := C) (dir := 1) H hq hC one0 c 0 10000 g mem (by omega) (by obtain ⟨a, -, h⟩ := hC; omega) h2.1
  rw [nI_0] at l1' l2 l3 l4 l5 l6
  have hxc := (pl_cl hx).1
  have hb0 : RMem (upd mem1 place.toNatClampNeg (-1)) (upd g1 place.toNatClampNeg (-1)) := RMem_u l7
  have hg1 : ∀ k, 96 ≤ k → upd g1 place.toNatClampNeg (-1) k = g k := fun k hk => (pk_un (by omega)).trans (l8 k hk)
  obtain ⟨g2, s1, s2, s3, s4, s5, s6, s7⟩ := p_sched (n := n) H hb0 (RQ_c h2.2.1 (reg' := reg) (fun _ _ _ => rfl) (fun k a c => hg1 k (by omega))) hp
  have hw : RW (FX3_schedule p reg (upd mem1 place.toNatClampNeg (-1))).2.1 g2 := RW_c h (fun k a c => s7 k (by omega)) (fun k a c _ _ _ => (s6 k (by omega)).trans (hg1 k (by omega)))
  have hB : RB0 (FX3_schedule p reg (upd mem1 place.toNatClampNeg (-1))).2.1 (FX3_schedule p reg (upd mem1 place.toNatClampNeg (-1))).2.2 tz tp tt tb l0 l1 g2 := RB0_q h2 s4 s5 s7 (fun k hk => (s6 k hk).trans (hg1 k (by omega)))
  obtain ⟨w1, -⟩ := own_w hw
  have hN : RD dia mt (emb b n g2) T := RD_c hd (Nat.le_refl _) (fun k hk => emb_out (by have := H.2; omega))
  obtain ⟨m1, m2, N', m3, m4, m5⟩ := p_note (f := fb f 0) (y1 := th 0) (y2 := place) (y3 := p) (y4 := (FX3_own (FX3_schedule p reg (upd mem1 place.toNatClampNeg (-1))).2.1)) (y5 := nI c) hN hT fb_46
  have eN : N' = emb b N' g2 := emb_of H.2 (fun k hk => m5 k (by omega))
  have hlay := lay_ok (n := n) (g := g1) (v := -1) H hx
  have hwp := wS3 (pW hp)
  have hpl : FX10_isPlace q = 1 ∧ FX10_isPlace C = 1 := ⟨isPlace10_1 (hq.pl0 hc), isPlace10_1 (hC.pl0 hc)⟩
  refine ⟨?_, ?_, N', g2, ?_, ?_⟩
  · subst hdir
    simp (decide := true) only [OX3_meet, pl_vp hwp, eq, l2, l5, pl_vp hx, s3, m1, if_true, if_false, true_implies, false_implies, implies_true, not_true_eq_false, not_false_eq_true, and_true, true_and, and_self, or_true, true_or]
  · subst hdir
    simp (decide := true) only [OX10_copies, OX10_copies_b4, hpl, needs_ok one0, l1', l4, fb_46, olay H (Or.inl rfl), hlay, s2, s1, oown H, own_e H, w1, m2, if_true, if_false, true_implies, false_implies, implies_true, not_true_eq_false, not_false_eq_true, and_true, true_and, and_self, or_true, true_or]
  · subst hdir
    rw [← eN]
    simp (decide := true) only [FX10_copies, FX10_copies_b4, hpl, needs_ok one0, l4, fb_46, hlay, s1, own_e H, w1, m3, if_true, if_false]
  · subst hdir
    simp (decide := true) only [FX3_meet, eq, l5, if_true, if_false]
    exact ⟨hw, hB, m4, fun k a c => (m5 k a).trans (emb_out c), fun k hk => s7 k (by omega)⟩
/-- a meeting: it sends -/
theorem p_meet_s (H : Hb f b) (h : RW reg g) (h2 : RB0 reg mem tz tp tt tb l0 l1 g) {T : Nat} (hT : T < 2 ^ 30) (hd : RD dia mt n T) {dir place p C q : Int32} {th : mF} {c : Nat} (hdir : ¬ dir = 0) (hp : isP p) (hx : isPl place) (hc : 1 ≤ c) (hC : isAr C c) (hq : isAr q c) (eq : mem (p / 2 - 3).toNatClampNeg = q) : OX3_meet dir place p (nI c) C th reg mem dia mt ∧ OX10_copies (th 0) place p C q (nI c) dir (fb f 0) (emb b n g) ∧ ∃ n' g', FX10_copies (th 0) place p C q (nI c) dir (fb f 0) (emb b n g) = (0, fb f 0, emb b n' g') ∧ RW (FX3_meet dir place p (nI c) C th reg mem dia mt).2.1 g' ∧ RB0 (FX3_meet dir place p (nI c) C th reg mem dia mt).2.1 (FX3_meet dir place p (nI c) C th reg mem dia mt).2.2.1 tz tp tt tb l0 l1 g' ∧ RD (FX3_meet dir place p (nI c) C th reg mem dia mt).2.2.2.1 (FX3_meet dir place p (nI c) C th reg mem dia mt).2.2.2.2 n' (T + 1) ∧ Keep b n n' ∧ ∀ k, k < 3 → (FX3_meet dir place p (nI c) C th reg mem dia mt).2.1 k = reg k := by
  obtain ⟨l1', l2, l3, g1, mem1, l4, l5, l6, l7, l8⟩ := cp_ok (n := n) (y1 := th 0) (y2 := place) (y3 := p) (y7 := dir) (z2 := place) (z3 := p) (s := C) (d := q) (dir := dir) H hC hq hdir c 0 10000 g mem (by omega) (by obtain ⟨a, -, h⟩ := hC; omega) h2.1
  rw [nI_0] at l1' l2 l3 l4 l5 l6
  have hxc := (pl_cl hx).1
  have hb0 : RMem (upd mem1 place.toNatClampNeg (-1)) (upd g1 place.toNatClampNeg (-1)) := RMem_u l7
  have hg1 : ∀ k, 96 ≤ k → upd g1 place.toNatClampNeg (-1) k = g k := fun k hk => (pk_un (by omega)).trans (l8 k hk)
  obtain ⟨g2, s1, s2, s3, s4, s5, s6, s7⟩ := p_sched (n := n) H hb0 (RQ_c h2.2.1 (reg' := reg) (fun _ _ _ => rfl) (fun k a c => hg1 k (by omega))) hp
  have hw : RW (FX3_schedule p reg (upd mem1 place.toNatClampNeg (-1))).2.1 g2 := RW_c h (fun k a c => s7 k (by omega)) (fun k a c _ _ _ => (s6 k (by omega)).trans (hg1 k (by omega)))
  have hB : RB0 (FX3_schedule p reg (upd mem1 place.toNatClampNeg (-1))).2.1 (FX3_schedule p reg (upd mem1 place.toNatClampNeg (-1))).2.2 tz tp tt tb l0 l1 g2 := RB0_q h2 s4 s5 s7 (fun k hk => (s6 k hk).trans (hg1 k (by omega)))
  obtain ⟨w1, -⟩ := own_w hw
  have hN : RD dia mt (emb b n g2) T := RD_c hd (Nat.le_refl _) (fun k hk => emb_out (by have := H.2; omega))
  obtain ⟨m1, m2, N', m3, m4, m5⟩ := p_note (f := fb f 0) (y1 := th 0) (y2 := place) (y3 := (FX3_own (FX3_schedule p reg (upd mem1 place.toNatClampNeg (-1))).2.1)) (y4 := p) (y5 := nI c) hN hT fb_46
  have eN : N' = emb b N' g2 := emb_of H.2 (fun k hk => m5 k (by omega))
  have hlay := lay_ok (n := n) (g := g1) (v := -1) H hx
  have hwp := wS3 (pW hp)
  have hpl : FX10_isPlace C = 1 ∧ FX10_isPlace q = 1 := ⟨isPlace10_1 (hC.pl0 hc), isPlace10_1 (hq.pl0 hc)⟩
  refine ⟨?_, ?_, N', g2, ?_, ?_⟩
  · simp (decide := true) only [OX3_meet, pl_vp hwp, eq, l3, l6, pl_vp hx, s3, hdir, m1, if_true, if_false, true_implies, false_implies, implies_true, not_true_eq_false, not_false_eq_true, and_true, true_and, and_self, or_true, true_or]
  · simp (decide := true) only [OX10_copies, OX10_copies_b4, hpl, needs_ok one0, l1', l4, fb_46, olay H (Or.inl rfl), hlay, s2, s1, oown H, own_e H, w1, hdir, m2, if_true, if_false, true_implies, false_implies, implies_true, not_true_eq_false, not_false_eq_true, and_true, true_and, and_self, or_true, true_or]
  · rw [← eN]
    simp (decide := true) only [FX10_copies, FX10_copies_b4, hpl, needs_ok one0, l4, fb_46, hlay, s1, own_e H, w1, hdir, m3, if_true, if_false]
  · simp (decide := true) only [FX3_meet, eq, l6, hdir, if_true, if_false]
    exact ⟨hw, hB, m4, fun k a c => (m5 k a).trans (emb_out c), fun k hk => s7 k (by omega)⟩
end CPY
