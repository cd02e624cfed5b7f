/-! PURE: waking, waiting at a channel (GENERATED, wip/gen/p/25.py) -/
def RW (reg g : mF) : Prop := isWv (reg 4) ∧ g 102 = 1 ∧ g 103 = reg 4 ∧ g 104 = reg 5 ∧ (reg 5 = 0 ∨ reg 5 = 1) ∧ g 105 = reg 3 ∧ g 109 = reg 6
theorem ROn.w {reg g : mF} (h : ROn reg g) : RW reg g := ⟨h.1, h.2.1, h.2.2.1, h.2.2.2.1, h.2.2.2.2.1, h.2.2.2.2.2.1, h.2.2.2.2.2.2.2.2.2⟩
theorem RW_c {reg reg' g g' : mF} (h : RW reg g) (hr : ∀ k, 3 ≤ k → k < 7 → reg' k = reg k) (hg : ∀ k, 102 ≤ k → k < 110 → k ≠ 106 → k ≠ 107 → k ≠ 108 → g' k = g k) : RW reg' g' := by
  unfold RW
  rw [hr 3 (by decide) (by decide), hr 4 (by decide) (by decide), hr 5 (by decide) (by decide), hr 6 (by decide) (by decide), hg 102 (by decide) (by decide) (by decide) (by decide) (by decide), hg 103 (by decide) (by decide) (by decide) (by decide) (by decide), hg 104 (by decide) (by decide) (by decide) (by decide) (by decide), hg 105 (by decide) (by decide) (by decide) (by decide) (by decide), hg 109 (by decide) (by decide) (by decide) (by decide) (by decide)]
  exact h
theorem RW_clr {reg g : mF} (h : RW reg g) : RW (FX3_clear reg).2 g := RW_c h (fun k a c => by
  show upd (upd (upd reg 0 0) 1 0) 2 0 k = reg k
  rw [pk_un (by omega), pk_un (by omega), pk_un (by omega)]) (fun _ _ _ _ _ _ => rfl)
theorem RB0_clr {reg mem tz tp tt tb l0 l1 g : mF} (h : RB0 reg mem tz tp tt tb l0 l1 g) : RB0 (FX3_clear reg).2 mem tz tp tt tb l0 l1 g := RB0_c h (fun k hk => by
  show upd (upd (upd reg 0 0) 1 0) 2 0 k = reg k
  rw [pk_un (by omega), pk_un (by omega), pk_un (by omega)]) (fun _ _ => rfl)
theorem clr0 {reg : mF} : (FX3_clear reg).2 0 = 0 ∧ (FX3_clear reg).2 1 = 0 ∧ (FX3_clear reg).2 2 = 0 := ⟨rfl, rfl, rfl⟩
/-- who runs has nothing in A, B, C -/
theorem RO_clr {reg mem tz tp tt tb l0 l1 g : mF} (h : RW reg g) (h2 : RB0 reg mem tz tp tt tb l0 l1 g) (h0 : reg 0 = 0 ∧ reg 1 = 0 ∧ reg 2 = 0) : RO reg mem tz tp tt tb l0 l1 (upd (upd (upd g 106 0) 107 0) 108 0) := by
  refine ⟨?_, RB0_c h2 (fun _ _ => rfl) (fun k hk => by rw [pk_un (by omega), pk_un (by omega), pk_un (by omega)])⟩
  obtain ⟨a1, a2, a3, a4, a5, a6, a7⟩ := h
  refine ⟨a1, ?_, ?_, ?_, a5, ?_, ?_, ?_, ?_, ?_⟩ <;> simp only [upd_at, h0.1, h0.2.1, h0.2.2] <;> first | rfl | assumption
theorem RM_gclr {reg mem tz tp tt tb l0 l1 g : mF} (h : ROff reg g) (h2 : RB0 reg mem tz tp tt tb l0 l1 g) : RM reg mem tz tp tt tb l0 l1 (upd (upd (upd g 106 0) 107 0) 108 0) := by
  refine ⟨Or.inl ⟨h.1, ?_⟩, RB0_c h2 (fun _ _ => rfl) (fun k hk => by rw [pk_un (by omega), pk_un (by omega), pk_un (by omega)])⟩
  rw [pk_un (by omega), pk_un (by omega), pk_un (by omega)]
  exact h.2
section WAIT
variable {f n g reg mem tz tp tt tb l0 l1 : mF} {b : Nat}
theorem off_w (H : Hb f b) (h : RW reg g) : FX10_off (fb f 0) (emb b n g) = (0, fb f 0, emb b n (upd (upd g (reg 4 - 1).toNatClampNeg (reg 3)) 102 0)) := by
  simp only [FX10_off, g103 H, g105 H]
  rw [h.2.2.1, h.2.2.2.2.2.1, lay_ok H (wS1 h.1)]
  simp only [s102 H]
theorem goOff_w (h : RW reg g) (h2 : RB0 reg mem tz tp tt tb l0 l1 g) : OX3_goOff reg mem ∧ ROff (FX3_goOff reg mem).2.1 (upd (upd g (reg 4 - 1).toNatClampNeg (reg 3)) 102 0) ∧ RB0 (FX3_goOff reg mem).2.1 (FX3_goOff reg mem).2.2 tz tp tt tb l0 l1 (upd (upd g (reg 4 - 1).toNatClampNeg (reg 3)) 102 0) := by
  have hp := wS1 h.1
  exact ⟨pl_vp hp, ⟨goOff4, pk_us⟩, RB0_c (RB0_m (pl_cl hp).1 h2) (fun k hk => pk_un (by omega)) (fun k hk => pk_un (by omega))⟩
theorem own_w (h : RW reg g) : 2 * g 103 + g 104 = FX3_own reg ∧ isP (FX3_own reg) ∧ FX3_own reg / 2 = reg 4 ∧ FX3_own reg &&& 1 = reg 5 := by
  obtain ⟨h1, h2, h3, h4, h5, -⟩ := h
  rw [h3, h4]
  exact ⟨rfl, pMk h1 h5⟩
theorem RW_m {k : Nat} {x : Int32} (hk : k < 96) (h : RW reg g) : RW reg (upd g k x) := RW_c h (fun _ _ _ => rfl) (fun j a c _ _ _ => pk_un (by omega))
/-- who runs waits at a channel -/
theorem p_wait (H : Hb f b) (h : RW reg g) (h2 : RB0 reg mem tz tp tt tb l0 l1 g) {x c : Int32} (hx : isPl x) : OX3_waitAt x c reg mem ∧ OX10_waitsAt x c (fb f 0) (emb b n g) ∧ ∃ g', FX10_waitsAt x c (fb f 0) (emb b n g) = (0, fb f 0, emb b n g') ∧ ROff (FX3_waitAt x c reg mem).2.1 g' ∧ RB0 (FX3_waitAt x c reg mem).2.1 (FX3_waitAt x c reg mem).2.2 tz tp tt tb l0 l1 g' := by
  have hc := (pl_cl hx).1
  have h3 := wS3 h.1
  have hc3 := (pl_cl h3).1
  obtain ⟨w1, w2, -, -⟩ := own_w h
  have k1 := lay_ok (n := n) (g := g) (v := FX3_own reg) H hx
  have e3 : upd g x.toNatClampNeg (FX3_own reg) 103 = reg 4 := (pk_un (by omega)).trans h.2.2.1
  have k2 := lay_ok (n := n) (g := upd g x.toNatClampNeg (FX3_own reg)) (v := c) H h3
  have r1 := RW_m (x := c) hc3 (RW_m (x := FX3_own reg) hc h)
  have r2 := RB0_m (x := c) hc3 (RB0_m (x := FX3_own reg) hc h2)
  obtain ⟨o1, o2, o3⟩ := goOff_w r1 r2
  refine ⟨by simp only [OX3_waitAt, pl_vp hx, pl_vp h3, true_and]; exact o1, ?_, _, ?_, o2, o3⟩
  · simp only [OX10_waitsAt, oown H, own_e H, w1, olay H (Or.inl rfl), k1, og103 H, g103 H, e3, k2, ooff H (Or.inl rfl), true_and]
  · simp only [FX10_waitsAt, own_e H, w1, k1, g103 H, e3, k2, off_w H r1]
/-! one who waits is awake -/
theorem wake_loop (H : Hb f b) {s : Nat} (hz : tz 0 = nI s) (hs : s ≤ 12) (h7 : g 117 = nI s) (hr : ∀ k, k < s → g (118 + 3 * k) = tp k ∧ g (120 + 3 * k) = tb k) {p : Int32} : ∀ (m i fuel : Nat), i + m = s → m < fuel → OX6_findByTaltwt_b1 fuel p (nI i) tz tp tb ∧ ((FX6_findByTaltwt_b1 fuel p (nI i) tz tp tb = -1 ∧ (OX10_schedule p (fb f 0) (emb b n g) → OX10_wakes_b1 fuel p (nI i) (fb f 0) (emb b n g)) ∧ FX10_wakes_b1 fuel p (nI i) (fb f 0) (emb b n g) = (0, (FX10_schedule p (fb f 0) (emb b n g)).2)) ∨ ∃ k, k < s ∧ FX6_findByTaltwt_b1 fuel p (nI i) tz tp tb = nI k ∧ ((OX10_leaves (nI k) (fb f 0) (emb b n g) ∧ OX10_lay (p / 2 - 4) (-5) (fb f 0) (FX10_leaves (nI k) (fb f 0) (emb b n g)).2 ∧ OX10_schedule p (FX10_lay (p / 2 - 4) (-5) (fb f 0) (FX10_leaves (nI k) (fb f 0) (emb b n g)).2).2.1 (FX10_lay (p / 2 - 4) (-5) (fb f 0) (FX10_leaves (nI k) (fb f 0) (emb b n g)).2).2.2) → OX10_wakes_b1 fuel p (nI i) (fb f 0) (emb b n g)) ∧ FX10_wakes_b1 fuel p (nI i) (fb f 0) (emb b n g) = (0, (FX10_schedule p (FX10_lay (p / 2 - 4) (-5) (fb f 0) (FX10_leaves (nI k) (fb f 0) (emb b n g)).2).2.1 (FX10_lay (p / 2 - 4) (-5) (fb f 0) (FX10_leaves (nI k) (fb f 0) (emb b n g)).2).2.2).2))
  | _, _, 0, _, h => absurd h (Nat.not_lt_zero _)
  | 0, i, fuel + 1, h, _ => by
    have c : tz 0 ≤ nI i := by rw [hz]; exact nI_le (by omega) (by omega)
    have c' : g 117 ≤ nI i := by rw [h7]; exact nI_le (by omega) (by omega)
    rw [OX6_findByTaltwt_b1, FX6_findByTaltwt_b1, if_pos c, OX10_wakes_b1, FX10_wakes_b1]
    refine ⟨⟨fun _ => trivial, fun h => absurd c h⟩, Or.inl ⟨rfl, ?_, ?_⟩⟩
    · simp only [og117 H, g117 H, c', true_and, true_implies, not_true_eq_false, false_implies, and_true, imp_self]
    · simp only [g117 H, c', if_true]
  | m + 1, i, fuel + 1, h, hn => by
    have c : ¬ tz 0 ≤ nI i := by rw [hz]; exact nI_ge (by omega) (by omega)
    have c' : ¬ g 117 ≤ nI i := by rw [h7]; exact nI_ge (by omega) (by omega)
    have v : vp_in (nI i) 12 := vp_in_nI (by omega) (by decide)
    obtain ⟨r1, r2⟩ := hr i (by omega)
    have x1 := oget_e (z := 0) (m := emb b n g) H (show 118 + 3 * i < 174 by omega) (m118 (by omega))
    have x2 := get_e (z := 0) (n := n) (g := g) H (show 118 + 3 * i < 174 by omega) (m118 (by omega))
    have x3 := oget_e (z := 0) (m := emb b n g) H (show 120 + 3 * i < 174 by omega) (m120 (by omega))
    have x4 := get_e (z := 0) (n := n) (g := g) H (show 120 + 3 * i < 174 by omega) (m120 (by omega))
    obtain ⟨ih1, ih2⟩ := wake_loop H hz hs h7 hr (p := p) m (i + 1) fuel (by omega) (by omega)
    rw [OX6_findByTaltwt_b1, FX6_findByTaltwt_b1, if_neg c, nI_clamp (by omega), OX10_wakes_b1, FX10_wakes_b1]
    simp only [og117 H, g117 H, c', x1, x2, x3, x4, r1, r2, nI_1, if_false, not_false_eq_true, false_implies, true_implies, true_and]
    by_cases c1 : tp i = p
    · by_cases c2 : tb i = 0
      · simp only [c1, c2, if_true, not_true_eq_false, false_implies, true_implies, and_true]
        exact ⟨⟨fun h => absurd h c, fun _ => ⟨v, v, ih1⟩⟩, ih2⟩
      · simp only [c1, c2, if_true, if_false, not_true_eq_false, not_false_eq_true, false_implies, true_implies, and_true, true_and]
        exact ⟨⟨fun h => absurd h c, fun _ => ⟨v, v⟩⟩, Or.inr ⟨i, by omega, rfl, fun h => h, rfl⟩⟩
    · simp only [c1, if_false, not_false_eq_true, false_implies, true_implies, true_and]
      exact ⟨⟨fun h => absurd h c, fun _ => ⟨v, ih1⟩⟩, ih2⟩
def cWake (p : Int32) (reg mem tz tp tt tb : mF) : mF × mF × mF × mF × mF × mF := let u := FX6_findByTaltwt p tz tp tb; if u = -1 then (let s := FX3_schedule p reg mem; (s.2.1, s.2.2, tz, tp, tt, tb)) else (let r := FX6_remove u tz tp tt tb; let m := upd mem ((p / 2 - 4 : Int32).toNatClampNeg) (-5); let s := FX3_schedule p reg m; (s.2.1, s.2.2, r.2.1, r.2.2.1, r.2.2.2.1, r.2.2.2.2))
def OcWake (p : Int32) (reg mem tz tp tt tb : mF) : Prop := OX6_findByTaltwt p tz tp tb ∧ (let u := FX6_findByTaltwt p tz tp tb; (u = -1 → OX3_schedule p reg mem) ∧ (¬ u = -1 → (OX6_remove u tz tp tt tb ∧ (vp_in (p / 2 - 4) 96 ∧ (let m := upd mem ((p / 2 - 4 : Int32).toNatClampNeg) (-5); OX3_schedule p reg m)))))
theorem nI_nm1 {k : Nat} (h : k < 2 ^ 31) : ¬ nI k = -1 := fun e => nI_pos h (by rw [e]; decide)
theorem p_wake (H : Hb f b) (hm : RMem mem g) (hq : RQ reg g) (hT : RT tz tp tt tb g) {p : Int32} (hp : isP p) : OcWake p reg mem tz tp tt tb ∧ OX10_wakes p (fb f 0) (emb b n g) ∧ ∃ g', FX10_wakes p (fb f 0) (emb b n g) = (0, fb f 0, emb b n g') ∧ RMem (cWake p reg mem tz tp tt tb).2.1 g' ∧ RQ (cWake p reg mem tz tp tt tb).1 g' ∧ RT (cWake p reg mem tz tp tt tb).2.2.1 (cWake p reg mem tz tp tt tb).2.2.2.1 (cWake p reg mem tz tp tt tb).2.2.2.2.1 (cWake p reg mem tz tp tt tb).2.2.2.2.2 g' ∧ (∀ k, k = 96 ∨ k = 97 ∨ (102 ≤ k ∧ k < 117) ∨ 154 ≤ k → g' k = g k) ∧ ∀ k, k < 14 ∨ 18 ≤ k → (cWake p reg mem tz tp tt tb).1 k = reg k := by
  obtain ⟨s, r1, r2, r3, r4, -⟩ := id hT
  have hl := wake_loop (n := n) (f := f) H r2 r1 r3 (fun k hk => ⟨(r4 k hk).1, (r4 k hk).2.2.1⟩) (p := p) s 0 10000 (Nat.zero_add _) (by omega)
  rw [nI_0] at hl
  have eF : FX6_findByTaltwt p tz tp tb = FX6_findByTaltwt_b1 10000 p 0 tz tp tb := by rw [FX6_findByTaltwt]
  have eO : OX6_findByTaltwt p tz tp tb = OX6_findByTaltwt_b1 10000 p 0 tz tp tb := by rw [OX6_findByTaltwt]
  have eW : FX10_wakes p (fb f 0) (emb b n g) = FX10_wakes_b1 10000 p 0 (fb f 0) (emb b n g) := by rw [FX10_wakes]
  have eP : OX10_wakes p (fb f 0) (emb b n g) = OX10_wakes_b1 10000 p 0 (fb f 0) (emb b n g) := by rw [OX10_wakes]
  obtain ⟨l1, l2⟩ := hl
  rcases l2 with ⟨l2, l3, l4⟩ | ⟨k, hk, l2, l3, l4⟩
  · obtain ⟨g', s1, s2, s3, s4, s5, s6, s7⟩ := p_sched (n := n) H hm hq hp
    have ec : cWake p reg mem tz tp tt tb = ((FX3_schedule p reg mem).2.1, (FX3_schedule p reg mem).2.2, tz, tp, tt, tb) := by simp only [cWake, eF, l2, if_true]
    rw [eW, eP, ec, l4, s1]
    refine ⟨by simp only [OcWake, eO, eF, l1, l2, true_and, true_implies, not_true_eq_false, false_implies, and_true]; exact s3, l3 s2, g', rfl, s4, s5, RT_c hT (fun k a c => s6 k (by omega)), fun k hk => s6 k (by omega), s7⟩
  · have hne := nI_nm1 (k := k) (by omega)
    obtain ⟨q1, q2, g1, q3, q4, q5, -, -⟩ := p_leave (n := n) (z := 0) H hT r2 r1 hk
    have h4 := wS4 (pW hp)
    have hc4 := (pl_cl h4).1
    have hm1 : RMem mem g1 := RMem_c hm (fun k hk => q4 k (by omega))
    have hq1 : RQ reg g1 := RQ_c hq (fun _ _ _ => rfl) (fun k a c => q4 k (by omega))
    have e5 := lay_ok (n := n) (g := g1) (v := -5) H h4
    have hm2 : RMem (upd mem (p / 2 - 4).toNatClampNeg (-5)) (upd g1 (p / 2 - 4).toNatClampNeg (-5)) := RMem_u hm1
    have hq2 : RQ reg (upd g1 (p / 2 - 4).toNatClampNeg (-5)) := RQ_c hq1 (fun _ _ _ => rfl) (fun k a c => pk_un (by omega))
    obtain ⟨g', s1, s2, s3, s4, s5, s6, s7⟩ := p_sched (n := n) H hm2 hq2 hp
    have ec : cWake p reg mem tz tp tt tb = ((FX3_schedule p reg (upd mem (p / 2 - 4).toNatClampNeg (-5))).2.1, (FX3_schedule p reg (upd mem (p / 2 - 4).toNatClampNeg (-5))).2.2, (FX6_remove (nI k) tz tp tt tb).2.1, (FX6_remove (nI k) tz tp tt tb).2.2.1, (FX6_remove (nI k) tz tp tt tb).2.2.2.1, (FX6_remove (nI k) tz tp tt tb).2.2.2.2) := by simp only [cWake, eF, l2, hne, if_false]
    rw [eW, eP, ec, l4, q3]
    dsimp only
    rw [e5]
    dsimp only
    rw [s1]
    refine ⟨by simp only [OcWake, eO, eF, l1, l2, hne, q1, pl_vp h4, true_and, true_implies, not_false_eq_true, false_implies]; exact s3, l3 ⟨q2, ?_, ?_⟩, g', rfl, s4, s5, RT_c q5 (fun k a c => (s6 k (by omega)).trans (pk_un (by omega))), fun k hk => ((s6 k (by omega)).trans (pk_un (by omega))).trans (q4 k (by omega)), s7⟩
    · rw [q3, olay H (Or.inl rfl)]; trivial
    · rw [q3]
      dsimp only
      rw [e5]
      exact s2
/-- one in an alternative is told -/
theorem p_alert (hm : RMem mem g) {p : Int32} (hp : isP p) : (mem (p / 2 - 3).toNatClampNeg = -3 → (OX3_alert p reg mem tz tp tt tb ↔ OcWake p reg (upd mem (p / 2 - 3).toNatClampNeg (-4)) tz tp tt tb) ∧ FX3_alert p reg mem tz tp tt tb = (0, cWake p reg (upd mem (p / 2 - 3).toNatClampNeg (-4)) tz tp tt tb)) ∧ (mem (p / 2 - 3).toNatClampNeg = -2 → OX3_alert p reg mem tz tp tt tb ∧ FX3_alert p reg mem tz tp tt tb = (0, reg, upd mem (p / 2 - 3).toNatClampNeg (-4), tz, tp, tt, tb)) ∧ (¬ mem (p / 2 - 3).toNatClampNeg = -3 → ¬ mem (p / 2 - 3).toNatClampNeg = -2 → OX3_alert p reg mem tz tp tt tb ∧ FX3_alert p reg mem tz tp tt tb = (0, reg, mem, tz, tp, tt, tb)) := by
  have h3 := wS3 (pW hp)
  have v := pl_vp h3
  refine ⟨fun c => ⟨?_, ?_⟩, fun c => ⟨?_, ?_⟩, fun c c2 => ⟨?_, ?_⟩⟩
  · simp only [OX3_alert, OX3_alert_b2, OcWake, c, v, pl_vp (wS4 (pW hp)), one0, true_and, true_implies, not_true_eq_false, not_false_eq_true, false_implies, and_true]
  · simp only [FX3_alert, FX3_alert_b2, cWake, c, one0, if_true, if_false]
    split <;> rfl
  · simp (decide := true) only [OX3_alert, OX3_alert_b2, c, v, if_true, if_false, true_implies, false_implies, implies_true, not_true_eq_false, not_false_eq_true, and_true, true_and, and_self, or_true, true_or]
  · simp (decide := true) only [FX3_alert, FX3_alert_b2, c, if_true, if_false]
  · simp (decide := true) only [OX3_alert, OX3_alert_b2, c, c2, v, if_true, if_false, true_implies, false_implies, implies_true, not_true_eq_false, not_false_eq_true, and_true, true_and, and_self, or_true, true_or]
  · simp (decide := true) only [FX3_alert, FX3_alert_b2, c, c2, if_true, if_false]
end WAIT
