/-! PURE: the next TOKEN, whole (GENERATED, wip/gen/p/76.py) -/
section TKW
variable {R f tp tr : mF} {fl : mFl} {S : Nat}
theorem nsub_le {a b c : Nat} (h : b ≤ a) (ha : a < 2 ^ 31) (hc : c < 2 ^ 31) : nI a - nI b ≤ nI c ↔ a - b ≤ c := by
  rw [nI_sub h]
  constructor
  · intro q
    rcases Nat.lt_or_ge c (a - b) with r | r
    · exact absurd q (nI_ge r (by omega))
    · exact r
  · intro q
    exact nI_le q hc
theorem p_num {s e : Nat} {z0 y : Int32} (hT : TP tp tr) (hS : S ≤ 700) (h2 : R 2 = nI S) (h5 : f 5 = nI S) (h6 : f 6 = nI s) (h9 : f 9 = 0) (hs : s < S) (hd : ¬ FX5_isDigit (tp s) = 0) (hz : (z0 = 0 ∧ ¬ y = 45) ∨ (z0 = 1 ∧ y = 45)) : OX5_scanNumber_b5 10000 z0 (nI s) (nI s) tp (upd R 8 0) ∧ OX10_go_b11 y f fl tr ∧ ∃ (e : Nat) (R1 R' f' : mF), s < e ∧ e ≤ S ∧ FX5_scanNumber_b5 10000 z0 (nI s) (nI s) tp (upd R 8 0) = (nI e, R1) ∧ FX5_scanNumber_b6 z0 (nI s) (nI e) tp R1 = (0, R') ∧ FX10_go_b11 y f fl tr = (0, f', fl) ∧ AR R R' ∧ AF f f' ∧ R' 6 = R 6 ∧ f' 7 = f 7 ∧ R' 7 = nI e ∧ f' 6 = nI e ∧ ((R' 5 = 1 ∧ f' 8 = 1) ∨ (R' 5 = 3 ∧ f' 8 = 3 ∧ R' 8 = f' 9)) := by
  have z10 : ¬ (1 : Int32) = 0 := by decide
  obtain ⟨o1, o2, e, R1, f1, e1, e2, e3, -, e4, e5, e6, e7, e8, e9⟩ := l_nm (R := upd R 8 0) (f := f) (s := s) (y1 := z0) (y2 := nI s) (z := y) hT hS (S - s) s 10000 10000 (by omega) (Nat.le_refl _) ((pk_un (by decide)).trans h2) h5 h6 (fun _ => pk_us.trans h9.symm) (by omega) (by omega)
  have hne : ¬ nI e = nI s := fun q => by have := (nI_eq (by omega) (by omega)).mp q; have := e3 hs hd; omega
  have sl : nI e - nI s ≤ 4 ↔ e - s ≤ 4 := nsub_le (c := 4) e1 (by omega) (by decide)
  have ar : ∀ (a : Int32), AR R (upd (upd R1 5 a) 7 (nI e)) := fun a k k5 k6 k7 k8 => (pk_un k7).trans ((pk_un k5).trans ((e6 k k8).trans (pk_un k8)))
  have ar2 : ∀ (a b : Int32), AR R (upd (upd (upd R1 8 b) 5 a) 7 (nI e)) := fun a b k k5 k6 k7 k8 => (pk_un k7).trans ((pk_un k5).trans ((pk_un k8).trans ((e6 k k8).trans (pk_un k8))))
  have af : ∀ (a b : Int32), AF f (upd (upd f1 8 a) 9 b) := fun a b k k6 k7 k8 k9 => (pk_un k9).trans ((pk_un k8).trans (e7 k k6 k9))
  have r6 : R1 6 = R 6 := (e6 6 (by decide)).trans (pk_un (by decide))
  have f7 : f1 7 = f 7 := e7 7 (by decide) (by decide)
  refine ⟨o1, by unfold OX10_go_b11; rw [h6]; exact o2, ?_⟩
  have es := e3 hs hd
  unfold FX10_go_b11 FX5_scanNumber_b6
  rw [h6, e5]
  dsimp only
  have sl' : f1 6 - nI s ≤ 4 ↔ e - s ≤ 4 := by rw [e8]; exact sl
  rcases hz with ⟨rfl, hy⟩ | ⟨rfl, hy⟩
  · rw [if_neg hy, if_neg hy]
    by_cases c : e - s ≤ 4
    · refine ⟨e, R1, _, _, es, e2, e4, (if_pos rfl).trans ((if_neg hne).trans (if_pos (sl.mpr c))), if_pos (sl'.mpr c), ar 3, af 3 _, ?_, ?_, pk_us, ?_, Or.inr ⟨?_, ?_, ?_⟩⟩
      · exact (pk_un (by decide)).trans ((pk_un (by decide)).trans r6)
      · exact (pk_un (by decide)).trans ((pk_un (by decide)).trans f7)
      · exact (pk_un (by decide)).trans ((pk_un (by decide)).trans e8)
      · exact (pk_un (by decide)).trans pk_us
      · exact (pk_un (by decide)).trans pk_us
      · exact ((pk_un (by decide)).trans ((pk_un (by decide)).trans (e9 c))).trans pk_us.symm
    · have d : ¬ nI e - nI s ≤ 4 := fun z => c (sl.mp z)
      refine ⟨e, R1, _, _, es, e2, e4, (if_pos rfl).trans ((if_neg hne).trans (if_neg d)), if_neg (fun z => c (sl'.mp z)), ar 1, af 1 _, ?_, ?_, pk_us, ?_, Or.inl ⟨?_, ?_⟩⟩
      · exact (pk_un (by decide)).trans ((pk_un (by decide)).trans r6)
      · exact (pk_un (by decide)).trans ((pk_un (by decide)).trans f7)
      · exact (pk_un (by decide)).trans ((pk_un (by decide)).trans e8)
      · exact (pk_un (by decide)).trans pk_us
      · exact (pk_un (by decide)).trans pk_us
  · rw [if_pos hy, if_pos hy]
    by_cases c : e - s ≤ 4
    · refine ⟨e, R1, _, _, es, e2, e4, (if_neg z10).trans ((if_neg hne).trans (if_pos (sl.mpr c))), if_pos (sl'.mpr c), ar2 3 _, af 3 _, ?_, ?_, pk_us, ?_, Or.inr ⟨?_, ?_, ?_⟩⟩
      · exact (pk_un (by decide)).trans ((pk_un (by decide)).trans ((pk_un (by decide)).trans r6))
      · exact (pk_un (by decide)).trans ((pk_un (by decide)).trans f7)
      · exact (pk_un (by decide)).trans ((pk_un (by decide)).trans e8)
      · exact (pk_un (by decide)).trans pk_us
      · exact (pk_un (by decide)).trans pk_us
      · exact ((pk_un (by decide)).trans ((pk_un (by decide)).trans (pk_us.trans (congrArg Neg.neg (e9 c))))).trans pk_us.symm
    · have d : ¬ nI e - nI s ≤ 4 := fun z => c (sl.mp z)
      refine ⟨e, R1, _, _, es, e2, e4, (if_neg z10).trans ((if_neg hne).trans (if_neg d)), if_neg (fun z => c (sl'.mp z)), ar2 1 _, af 1 _, ?_, ?_, pk_us, ?_, Or.inl ⟨?_, ?_⟩⟩
      · exact (pk_un (by decide)).trans ((pk_un (by decide)).trans ((pk_un (by decide)).trans r6))
      · exact (pk_un (by decide)).trans ((pk_un (by decide)).trans f7)
      · exact (pk_un (by decide)).trans ((pk_un (by decide)).trans e8)
      · exact (pk_un (by decide)).trans pk_us
      · exact (pk_un (by decide)).trans pk_us
theorem AF_7 {f f' : mF} {a b : Int32} (h : AF (upd (upd f 7 a) 9 b) f') : AF f f' := fun k k6 k7 k8 k9 => (h k k6 k7 k8 k9).trans ((pk_un k9).trans (pk_un k7))
theorem AF_76 {f f' : mF} {a b c : Int32} (h : AF (upd (upd (upd f 7 a) 9 b) 6 c) f') : AF f f' := fun k k6 k7 k8 k9 => (h k k6 k7 k8 k9).trans ((pk_un k6).trans ((pk_un k9).trans (pk_un k7)))
theorem AR_6 {R R' : mF} {a : Int32} (h : AR (upd R 6 a) R') : AR R R' := fun k k5 k6 k7 k8 => (h k k5 k6 k7 k8).trans (pk_un k6)
theorem p_at {e lo : Nat} (hT : TP tp tr) (hS : S ≤ 700) (h2 : R 2 = nI S) (h5 : f 5 = nI S) (he : e ≤ S) (hl : lo ≤ e) (h6 : f 6 = nI e) : OX5_scan_b3 (nI e) tp R ∧ OX10_go_b2 f fl tr ∧ ∃ (R' f' : mF) (fl' : mFl), FX5_scan_b3 (nI e) tp R = (0, R') ∧ FX10_go_b2 f fl tr = (0, f', fl') ∧ TK S lo R' f' fl' ∧ AR R R' ∧ AF f f' := by
  have n0 : FX10_isDigit 0 = 0 := rfl
  unfold OX5_scan_b3 OX10_go_b2 FX5_scan_b3 FX10_go_b2
  rw [h2, h5, h6]
  rcases Nat.lt_or_ge e S with hs | hs
  · have c : nI e < nI S := nI_lt hs (by omega)
    have ci : (nI e).toNatClampNeg = e := nI_clamp (by omega)
    have vi : vp_in (nI e) 700 := vp_in_nI (by omega) (by decide)
    have hb := hT e (by omega)
    rw [if_pos c, if_pos c, ci]
    dsimp only
    rcases BY_let hb with ⟨n, n1, n2, n3, n4, n5, n6⟩ | ⟨n5, n6⟩
    · have z5 : ¬ FX5_isLetter (tp e) = 0 := by rw [n5]; decide
      have z6 : ¬ FX10_isLetter (tr e) = 0 := by rw [n6]; decide
      obtain ⟨o1, o2, e', R1, f1, fl1, e1, e2, e3, e4, e5, e6, e7, e8, e9⟩ := l_wd (p := e) (R := upd (upd R 6 (nI e)) 8 0) (f := upd (upd f 7 (nI e)) 9 0) (fl := vp_updL fl 12 0) hT hS (S - e) e 10000 10000 (by omega) (Nat.le_refl _) ((pk_un (by decide)).trans ((pk_un (by decide)).trans h2)) ((pk_un (by decide)).trans ((pk_un (by decide)).trans h5)) ((pk_un (by decide)).trans ((pk_un (by decide)).trans h6)) ((pk_un (by decide)).trans pk_us) (fun _ => ⟨[], fun c hc => absurd hc List.not_mem_nil, by rw [Nat.sub_self]; rfl, pk_us, pk_uLs⟩) (by omega) (by omega)
      have es := e3 hs z5
      have sl : nI e' - nI e ≤ 6 ↔ e' - e ≤ 6 := nsub_le (c := 6) e1 (by omega) (by decide)
      have r6 : R1 6 = nI e := (e6 6 (by decide)).trans ((pk_un (by decide)).trans pk_us)
      have r2 : R1 2 = nI S := (e6 2 (by decide)).trans ((pk_un (by decide)).trans ((pk_un (by decide)).trans h2))
      have f7 : f1 7 = nI e := (e7 7 (by decide)).trans ((pk_un (by decide)).trans pk_us)
      have f5 : f1 5 = nI S := (e7 5 (by decide)).trans ((pk_un (by decide)).trans ((pk_un (by decide)).trans h5))
      have ar : ∀ (a : Int32), AR R (upd (upd R1 5 a) 7 (nI e')) := fun a k k5 k6 k7 k8 => (pk_un k7).trans ((pk_un k5).trans ((e6 k k8).trans ((pk_un k8).trans (pk_un k6))))
      have af : ∀ (a : Int32), AF f (upd f1 8 a) := fun a k k6 k7 k8 k9 => (pk_un k8).trans ((e7 k k6).trans ((pk_un k9).trans (pk_un k7)))
      have tk : ∀ (a : Int32), (a = 1 ∨ (a = 2 ∧ e' - e ≤ 6)) → TK S lo (upd (upd R1 5 a) 7 (nI e')) (upd f1 8 a) fl1 := by
        intro a ha
        refine ⟨?_, ?_, ?_, Or.inr ⟨⟨e', by omega, e2, pk_us, (pk_un (by decide)).trans e8⟩, ?_⟩⟩
        · exact (pk_un (by decide)).trans ((pk_un (by decide)).trans r2)
        · exact (pk_un (by decide)).trans f5
        · exact TK_p ((pk_un (by decide)).trans ((pk_un (by decide)).trans r6)) ((pk_un (by decide)).trans f7) he
        · have x1 : upd (upd R1 5 a) 7 (nI e') 5 = a := (pk_un (by decide)).trans pk_us
          have x2 : upd (upd R1 5 a) 7 (nI e') 8 = R1 8 := (pk_un (by decide)).trans (pk_un (by decide))
          have x3 : upd f1 8 a 8 = a := pk_us
          rcases ha with rfl | ⟨rfl, ha⟩
          · exact Or.inl ⟨x1, x3⟩
          · refine Or.inr (Or.inl ⟨x1, x3, ?_⟩)
            rw [x2]
            exact ⟨e' - e, ha, e9 ha⟩
      have xw : OX5_scanWord tp (upd R 6 (nI e)) := by
        unfold OX5_scanWord
        rw [pk_us]
        exact o1
      rw [if_neg z5, if_neg z6, e5]
      dsimp only
      unfold FX5_scanWord
      rw [pk_us, e4]
      dsimp only
      have sa : nI e' - R1 6 ≤ 6 ↔ e' - e ≤ 6 := by rw [r6]; exact sl
      have sb : f1 6 - f1 7 ≤ 6 ↔ e' - e ≤ 6 := by rw [e8, f7]; exact sl
      refine ⟨⟨fun _ => ⟨vi, fun z => absurd z z5, fun _ => xw⟩, fun z => absurd c z⟩, ⟨fun _ => ⟨vi, fun z => absurd z z6, fun _ => o2⟩, fun z => absurd c z⟩, ?_⟩
      by_cases d : e' - e ≤ 6
      · rw [if_pos (sa.mpr d), if_pos (sb.mpr d)]
        exact ⟨_, _, fl1, rfl, rfl, tk 2 (Or.inr ⟨rfl, d⟩), ar 2, af 2⟩
      · rw [if_neg (fun z => d (sa.mp z)), if_neg (fun z => d (sb.mp z))]
        exact ⟨_, _, fl1, rfl, rfl, tk 1 (Or.inl rfl), ar 1, af 1⟩
    · rw [if_pos n5, if_pos n6]
      rcases BY_dig hb with ⟨n, n1, n2, n3, n4, n7, n8⟩ | ⟨n7, n8⟩
      · have z7 : ¬ FX5_isDigit (tp e) = 0 := by rw [n7]; decide
        have z8 : ¬ FX10_isDigit (tr e) = 0 := by rw [n8]; decide
        have t5 : ¬ tp e = 45 := by
          rw [n3]
          intro z
          have := (nI_eq (a := n) (b := 45) (by omega) (by decide)).mp z
          omega
        have t6 : ¬ tr e = 45 := by
          rw [n4, ← n3]
          exact t5
        obtain ⟨o1, o2, e', R1, R2, f2, e1, e2, e3, e4, e5, e6, e7, e8, e9, e10, e11, e12⟩ := p_num (R := upd R 6 (nI e)) (f := upd (upd f 7 (nI e)) 9 0) (fl := vp_updL fl 12 0) (z0 := 0) (y := tr e) (e := e) (s := e) hT hS ((pk_un (by decide)).trans h2) ((pk_un (by decide)).trans ((pk_un (by decide)).trans h5)) ((pk_un (by decide)).trans ((pk_un (by decide)).trans h6)) pk_us hs z7 (Or.inl ⟨rfl, t6⟩)
        have r6 : R2 6 = nI e := e8.trans pk_us
        have r2 : R2 2 = nI S := (e6 2 (by decide) (by decide) (by decide) (by decide)).trans ((pk_un (by decide)).trans h2)
        have f7 : f2 7 = nI e := e9.trans ((pk_un (by decide)).trans pk_us)
        have f5 : f2 5 = nI S := (e7 5 (by decide) (by decide) (by decide) (by decide)).trans ((pk_un (by decide)).trans ((pk_un (by decide)).trans h5))
        have xn : OX5_scanNumber tp (upd R 6 (nI e)) := by
          unfold OX5_scanNumber OX5_scanNumber_b2
          rw [pk_us, ci]
          exact ⟨vi, fun z => absurd z t5, fun _ => ⟨fun _ => o1, fun z => absurd rfl z⟩⟩
        have en : FX5_scanNumber tp (upd R 6 (nI e)) = (0, R2) := by
          unfold FX5_scanNumber FX5_scanNumber_b2
          rw [pk_us, ci, if_neg t5, if_pos rfl, e3]
          exact e4
        rw [if_neg t5, if_neg z7, en, if_neg z8, if_neg t6, e5]
        refine ⟨⟨fun _ => ⟨vi, fun _ => ⟨vi, fun z => absurd z t5, fun _ => ⟨vi, fun z => absurd z z7, fun _ => xn⟩⟩, fun z => absurd n5 z⟩, fun z => absurd c z⟩, ⟨fun _ => ⟨vi, fun _ => ⟨fun z => absurd z z8, fun _ => ⟨fun z => absurd z t6, fun _ => o2⟩⟩, fun z => absurd n6 z⟩, fun z => absurd c z⟩, R2, f2, _, rfl, rfl, ⟨r2, f5, TK_p r6 f7 he, Or.inr ⟨⟨e', by omega, e2, e10, e11⟩, ?_⟩⟩, AR_6 e6, AF_7 e7⟩
        rcases e12 with q | q
        · exact Or.inl q
        · exact Or.inr (Or.inr (Or.inl q))
      · rw [if_pos n7, if_pos n8]
        have s45 : tp e = 45 ↔ tr e = 45 := BY_eq hb (show 45 < 128 by decide)
        have s59 : tp e = 59 ↔ tr e = 59 := BY_eq hb (show 59 < 128 by decide)
        have s58 : tp e = 58 ↔ tr e = 58 := BY_eq hb (show 58 < 128 by decide)
        -- one byte that is a token by itself
        have one : ∀ (a b : Int32), ((a = 1 ∧ b = 1) ∨ ((a = 59 ∨ a = 58) ∧ b = 4 ∧ tr e = a)) → TK S lo (upd (upd (upd R 6 (nI e)) 5 a) 7 (nI e + 1)) (upd (upd (upd (upd (upd f 7 (nI e)) 9 0) 6 (nI e + 1)) 8 b) 9 (tr e)) (vp_updL fl 12 0) ∧ AR R (upd (upd (upd R 6 (nI e)) 5 a) 7 (nI e + 1)) ∧ AF f (upd (upd (upd (upd (upd f 7 (nI e)) 9 0) 6 (nI e + 1)) 8 b) 9 (tr e)) := by
          intro a b h
          have x5 : upd (upd (upd R 6 (nI e)) 5 a) 7 (nI e + 1) 5 = a := (pk_un (by decide)).trans pk_us
          have y8 : upd (upd (upd (upd (upd f 7 (nI e)) 9 0) 6 (nI e + 1)) 8 b) 9 (tr e) 8 = b := (pk_un (by decide)).trans pk_us
          refine ⟨⟨?_, ?_, ?_, Or.inr ⟨⟨e + 1, by omega, by omega, pk_us.trans (nI_1 e), ?_⟩, ?_⟩⟩, ?_, ?_⟩
          · exact (pk_un (by decide)).trans ((pk_un (by decide)).trans ((pk_un (by decide)).trans h2))
          · exact (pk_un (by decide)).trans ((pk_un (by decide)).trans ((pk_un (by decide)).trans ((pk_un (by decide)).trans ((pk_un (by decide)).trans h5))))
          · exact TK_p ((pk_un (by decide)).trans ((pk_un (by decide)).trans pk_us)) ((pk_un (by decide)).trans ((pk_un (by decide)).trans ((pk_un (by decide)).trans ((pk_un (by decide)).trans pk_us)))) he
          · exact (pk_un (by decide)).trans ((pk_un (by decide)).trans (pk_us.trans (nI_1 e)))
          · rcases h with ⟨rfl, rfl⟩ | ⟨h, rfl, q⟩
            · exact Or.inl ⟨x5, y8⟩
            · exact Or.inr (Or.inr (Or.inr ⟨a, h, x5, y8, pk_us.trans q⟩))
          · exact fun k k5 k6 k7 k8 => (pk_un k7).trans ((pk_un k5).trans (pk_un k6))
          · exact fun k k6 k7 k8 k9 => (pk_un k9).trans ((pk_un k8).trans ((pk_un k6).trans ((pk_un k9).trans (pk_un k7))))
        by_cases t5 : tp e = 45
        · have t6 := s45.mp t5
          rw [if_pos t5, if_pos t6]
          obtain ⟨s1, s2⟩ := seen_e (S := S) (f := upd (upd f 7 (nI e)) 9 0) (tr := tr) (k := e + 1) ((pk_un (by decide)).trans ((pk_un (by decide)).trans h5)) (by omega) hS
          rw [nI_1, s2]
          -- is there a digit behind it?
          by_cases dg : e + 1 < S ∧ ¬ FX5_isDigit (tp (e + 1)) = 0
          · obtain ⟨d1, d2⟩ := dg
            have zd : ¬ FX10_isDigit (tr (e + 1)) = 0 := by
              rcases BY_dig (hT (e + 1) (by omega)) with ⟨-, -, -, -, -, -, q⟩ | ⟨q, -⟩
              · rw [q]; decide
              · exact absurd q d2
            obtain ⟨o1, o2, e', R1, R2, f2, e1, e2, e3, e4, e5, e6, e7, e8, e9, e10, e11, e12⟩ := p_num (R := upd R 6 (nI e)) (f := upd (upd (upd f 7 (nI e)) 9 0) 6 (nI (e + 1))) (fl := vp_updL fl 12 0) (z0 := 1) (y := tr e) (e := e) (s := e + 1) hT hS ((pk_un (by decide)).trans h2) ((pk_un (by decide)).trans ((pk_un (by decide)).trans ((pk_un (by decide)).trans h5))) pk_us ((pk_un (by decide)).trans pk_us) d1 d2 (Or.inr ⟨rfl, t6⟩)
            have r6 : R2 6 = nI e := e8.trans pk_us
            have r2 : R2 2 = nI S := (e6 2 (by decide) (by decide) (by decide) (by decide)).trans ((pk_un (by decide)).trans h2)
            have f7 : f2 7 = nI e := e9.trans ((pk_un (by decide)).trans ((pk_un (by decide)).trans pk_us))
            have f5 : f2 5 = nI S := (e7 5 (by decide) (by decide) (by decide) (by decide)).trans ((pk_un (by decide)).trans ((pk_un (by decide)).trans ((pk_un (by decide)).trans h5)))
            have z10 : ¬ (1 : Int32) = 0 := by decide
            have xn : OX5_scanNumber tp (upd R 6 (nI e)) := by
              unfold OX5_scanNumber OX5_scanNumber_b2
              rw [pk_us, ci, nI_1]
              exact ⟨vi, fun _ => ⟨fun z => absurd z z10, fun _ => o1⟩, fun z => absurd t5 z⟩
            have en : FX5_scanNumber tp (upd R 6 (nI e)) = (0, R2) := by
              unfold FX5_scanNumber FX5_scanNumber_b2
              rw [pk_us, ci, nI_1, if_pos t5, if_neg z10, e3]
              exact e4
            rw [if_neg (show ¬ S ≤ e + 1 by omega)] at s2 ⊢
            rw [if_neg zd, if_pos t6, en, e5]
            refine ⟨⟨fun _ => ⟨vi, fun _ => ⟨vi, fun _ => xn, fun z => absurd t5 z⟩, fun z => absurd n5 z⟩, fun z => absurd c z⟩, ⟨fun _ => ⟨vi, fun _ => ⟨fun _ => ⟨fun _ => ⟨s1, fun z => absurd z zd, fun _ => ⟨fun _ => o2, fun z => absurd t6 z⟩⟩, fun z => absurd t6 z⟩, fun z => absurd n8 z⟩, fun z => absurd n6 z⟩, fun z => absurd c z⟩, R2, f2, _, rfl, rfl, ⟨r2, f5, TK_p r6 f7 he, Or.inr ⟨⟨e', by omega, e2, e10, e11⟩, ?_⟩⟩, AR_6 e6, AF_76 e7⟩
            rcases e12 with q | q
            · exact Or.inl q
            · exact Or.inr (Or.inr (Or.inl q))
          · have zd : FX10_isDigit (if S ≤ e + 1 then 0 else tr (e + 1)) = 0 := by
              by_cases d1 : S ≤ e + 1
              · rw [if_pos d1]
                exact n0
              · rw [if_neg d1]
                rcases BY_dig (hT (e + 1) (by omega)) with ⟨-, -, -, -, -, q, -⟩ | ⟨-, q⟩
                · exact absurd ⟨by omega, by rw [q]; decide⟩ dg
                · exact q
            obtain ⟨o1, -, e', R1, f1, e1, e2, -, e3, e4, -, e6, -, -, -⟩ := l_nm (R := upd (upd R 6 (nI e)) 8 0) (f := upd (upd (upd f 7 (nI e)) 9 0) 6 (nI (e + 1))) (s := e + 1) (y1 := 1) (y2 := nI (e + 1)) (z := 0) hT hS (S - (e + 1)) (e + 1) 10000 10000 (by omega) (Nat.le_refl _) ((pk_un (by decide)).trans ((pk_un (by decide)).trans h2)) ((pk_un (by decide)).trans ((pk_un (by decide)).trans ((pk_un (by decide)).trans h5))) pk_us (fun _ => pk_us.trans ((pk_un (by decide)).trans pk_us).symm) (by omega) (by omega)
            have ee : e' = e + 1 := e3 (by
              rcases Nat.lt_or_ge (e + 1) S with q | q
              · exact Or.inr (Classical.byContradiction fun r => dg ⟨q, r⟩)
              · exact Or.inl q)
            subst ee
            have z10 : ¬ (1 : Int32) = 0 := by decide
            have n59 : ¬ tr e = 59 := by rw [t6]; decide
            have n58 : ¬ tr e = 58 := by rw [t6]; decide
            have xn : OX5_scanNumber tp (upd R 6 (nI e)) := by
              unfold OX5_scanNumber OX5_scanNumber_b2
              rw [pk_us, ci, nI_1]
              exact ⟨vi, fun _ => ⟨fun z => absurd z z10, fun _ => o1⟩, fun z => absurd t5 z⟩
            have en : FX5_scanNumber tp (upd R 6 (nI e)) = (0, upd (upd (upd R1 8 (-(R1 8))) 5 1) 7 (nI (e + 1))) := by
              unfold FX5_scanNumber FX5_scanNumber_b2
              rw [pk_us, ci, nI_1, if_pos t5, if_neg z10, e4]
              dsimp only
              unfold FX5_scanNumber_b6
              rw [if_neg z10, if_pos rfl]
            have t := one 1 1 (Or.inl ⟨rfl, rfl⟩)
            rw [nI_1] at t
            rw [if_pos zd, en, if_neg n59, if_neg n58]
            dsimp only
            have r1 : ∀ k, k ≠ 6 → k ≠ 8 → R1 k = R k := fun k a b => (e6 k b).trans ((pk_un b).trans (pk_un a))
            have r6 : R1 6 = nI e := (e6 6 (by decide)).trans ((pk_un (by decide)).trans pk_us)
            refine ⟨⟨fun _ => ⟨vi, fun _ => ⟨vi, fun _ => xn, fun z => absurd t5 z⟩, fun z => absurd n5 z⟩, fun z => absurd c z⟩, ⟨fun _ => ⟨vi, fun _ => ⟨fun _ => ⟨fun _ => ⟨s1, fun _ => trivial, fun z => absurd zd z⟩, fun z => absurd t6 z⟩, fun z => absurd n8 z⟩, fun z => absurd n6 z⟩, fun z => absurd c z⟩, _, _, _, rfl, rfl, ⟨?_, t.1.2.1, ?_, Or.inr ⟨⟨e + 1, by omega, by omega, pk_us, ?_⟩, Or.inl ⟨?_, ?_⟩⟩⟩, ?_, t.2.2⟩
            · exact (pk_un (by decide)).trans ((pk_un (by decide)).trans ((pk_un (by decide)).trans ((r1 2 (by decide) (by decide)).trans h2)))
            · exact TK_p ((pk_un (by decide)).trans ((pk_un (by decide)).trans ((pk_un (by decide)).trans r6))) ((pk_un (by decide)).trans ((pk_un (by decide)).trans ((pk_un (by decide)).trans ((pk_un (by decide)).trans pk_us)))) he
            · exact (pk_un (by decide)).trans ((pk_un (by decide)).trans pk_us)
            · exact (pk_un (by decide)).trans pk_us
            · exact (pk_un (by decide)).trans pk_us
            · exact fun k k5 k6 k7 k8 => (pk_un k7).trans ((pk_un k5).trans ((pk_un k8).trans (r1 k k6 k8)))
        · have t6 : ¬ tr e = 45 := fun z => t5 (s45.mpr z)
          rw [if_neg t5, if_neg t6]
          by_cases u5 : tp e = 59
          · have u6 := s59.mp u5
            have t := one 59 4 (Or.inr ⟨Or.inl rfl, rfl, u6⟩)
            rw [if_pos u5, if_pos u6, u5]
            exact ⟨⟨fun _ => ⟨vi, fun _ => ⟨vi, fun z => absurd z (by decide), fun _ => ⟨vi, fun _ => ⟨vi, fun _ => vi, fun z => absurd rfl z⟩, fun z => absurd (u5 ▸ n7) z⟩⟩, fun z => absurd (u5 ▸ n5) z⟩, fun z => absurd c z⟩, ⟨fun _ => ⟨vi, fun _ => ⟨fun _ => ⟨fun z => absurd z t6, fun _ => trivial⟩, fun z => absurd n8 z⟩, fun z => absurd n6 z⟩, fun z => absurd c z⟩, _, _, _, rfl, rfl, t⟩
          · have u6 : ¬ tr e = 59 := fun z => u5 (s59.mpr z)
            rw [if_neg u5, if_neg u6]
            by_cases v5 : tp e = 58
            · have v6 := s58.mp v5
              have t := one 58 4 (Or.inr ⟨Or.inr rfl, rfl, v6⟩)
              rw [if_pos v5, if_pos v6, v5]
              exact ⟨⟨fun _ => ⟨vi, fun _ => ⟨vi, fun z => absurd z (by decide), fun _ => ⟨vi, fun _ => ⟨vi, fun z => absurd z (by decide), fun _ => ⟨vi, fun _ => vi, fun z => absurd rfl z⟩⟩, fun z => absurd (v5 ▸ n7) z⟩⟩, fun z => absurd (v5 ▸ n5) z⟩, fun z => absurd c z⟩, ⟨fun _ => ⟨vi, fun _ => ⟨fun _ => ⟨fun z => absurd z t6, fun _ => trivial⟩, fun z => absurd n8 z⟩, fun z => absurd n6 z⟩, fun z => absurd c z⟩, _, _, _, rfl, rfl, t⟩
            · have v6 : ¬ tr e = 58 := fun z => v5 (s58.mpr z)
              have t := one 1 1 (Or.inl ⟨rfl, rfl⟩)
              rw [if_neg v5, if_neg v6]
              exact ⟨⟨fun _ => ⟨vi, fun _ => ⟨vi, fun z => absurd z t5, fun _ => ⟨vi, fun _ => ⟨vi, fun z => absurd z u5, fun _ => ⟨vi, fun z => absurd z v5, fun _ => trivial⟩⟩, fun z => absurd n7 z⟩⟩, fun z => absurd n5 z⟩, fun z => absurd c z⟩, ⟨fun _ => ⟨vi, fun _ => ⟨fun _ => ⟨fun z => absurd z t6, fun _ => trivial⟩, fun z => absurd n8 z⟩, fun z => absurd n6 z⟩, fun z => absurd c z⟩, _, _, _, rfl, rfl, t⟩
  · have c : ¬ nI e < nI S := fun z => by
      have := (nI_ltI (by omega) (by omega)).mp z
      omega
    rw [if_neg c, if_neg c]
    refine ⟨⟨fun z => absurd z c, fun _ => trivial⟩, ⟨fun z => absurd z c, fun _ => trivial⟩, _, _, _, rfl, rfl, ⟨?_, ?_, ?_, Or.inl ⟨pk_us, pk_us⟩⟩, ?_, ?_⟩
    · exact (pk_un (by decide)).trans ((pk_un (by decide)).trans h2)
    · exact (pk_un (by decide)).trans ((pk_un (by decide)).trans ((pk_un (by decide)).trans h5))
    · exact TK_p ((pk_un (by decide)).trans pk_us) ((pk_un (by decide)).trans ((pk_un (by decide)).trans pk_us)) he
    · exact fun k k5 k6 k7 k8 => (pk_un k5).trans (pk_un k6)
    · exact fun k k6 k7 k8 k9 => (pk_un k8).trans ((pk_un k9).trans (pk_un k7))
theorem p_scan {q : Nat} (hT : TP tp tr) (hS : S ≤ 700) (h2 : R 2 = nI S) (h5 : f 5 = nI S) (hq : q ≤ S) (h7 : R 7 = nI q) (h6 : f 6 = nI q) : OX5_scan tp R ∧ OX10_go f fl tr ∧ ∃ (R' f' : mF) (fl' : mFl), FX5_scan tp R = (0, R') ∧ FX10_go f fl tr = (0, f', fl') ∧ TK S q R' f' fl' ∧ AR R R' ∧ AF f f' := by
  obtain ⟨a1, a2, e, e1, e2, e3, e4⟩ := l_sp (R := R) hT hS h2 (S - q) q 10000 10000 f (by omega) h5 h6 (by omega) (by omega)
  obtain ⟨b1, b2, R', f', fl', b3, b4, b5, b6, b7⟩ := p_at (R := R) (f := upd f 6 (nI e)) (fl := fl) hT hS h2 ((pk_un (by decide)).trans h5) e2 e1 pk_us
  unfold OX5_scan OX10_go FX5_scan FX10_go
  rw [h7, e3, e4]
  exact ⟨⟨a1, b1⟩, ⟨a2, b2⟩, R', f', fl', b3, b4, b5, b6, fun k k6 k7 k8 k9 => (b7 k k6 k7 k8 k9).trans (pk_un k6)⟩
end TKW
