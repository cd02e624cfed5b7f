/-! PURE: the next TOKEN on both sides (GENERATED, wip/gen/p/75.py) -/
/-- what is the same but for the TOKEN -/
def AR (R R' : mF) : Prop := ∀ k, k ≠ 5 → k ≠ 6 → k ≠ 7 → k ≠ 8 → R' k = R k
def AF (f f' : mF) : Prop := ∀ k, k ≠ 6 → k ≠ 7 → k ≠ 8 → k ≠ 9 → f' k = f k
/-- the TOKEN that both read, its place told; what is behind it goes on behind lo -/
def TK (S lo : Nat) (R f : mF) (fl : mFl) : Prop := R 2 = nI S ∧ f 5 = nI S ∧ (R 6 = f 7 ∧ ∃ p : Nat, p ≤ S ∧ f 7 = nI p) ∧ ((R 5 = 0 ∧ f 8 = 0) ∨ (∃ q : Nat, lo < q ∧ q ≤ S ∧ R 7 = nI q ∧ f 6 = nI q) ∧ ((R 5 = 1 ∧ f 8 = 1) ∨ (R 5 = 2 ∧ f 8 = 2 ∧ WD (R 8) (fl 12)) ∨ (R 5 = 3 ∧ f 8 = 3 ∧ R 8 = f 9) ∨ ∃ s : Int32, (s = 59 ∨ s = 58) ∧ R 5 = s ∧ f 8 = 4 ∧ f 9 = s))
theorem TK_lo {S lo lo' : Nat} {R f : mF} {fl : mFl} (h : TK S lo R f fl) (e : lo' ≤ lo) : TK S lo' R f fl := by
  obtain ⟨a, b, c, d⟩ := h
  refine ⟨a, b, c, d.imp_right fun ⟨⟨q, h1, h2⟩, h3⟩ => ⟨⟨q, by omega, h2⟩, h3⟩⟩
theorem TK_p {R f : mF} {S e : Nat} (a : R 6 = nI e) (b : f 7 = nI e) (h : e ≤ S) : R 6 = f 7 ∧ ∃ p : Nat, p ≤ S ∧ f 7 = nI p := ⟨a.trans b.symm, e, h, b⟩
section TKS
variable {R f tp tr : mF} {fl : mFl} {S : Nat}
theorem l_sp (hT : TP tp tr) (hS : S ≤ 700) (h2 : R 2 = nI S) : ∀ (m i fuel fuel' : Nat) (f : mF), i + m = S → f 5 = nI S → f 6 = nI i → m < fuel → m < fuel' → OX5_scan_b1 fuel (nI i) tp R ∧ OX10_go_b0 fuel' f tr ∧ ∃ e : Nat, i ≤ e ∧ e ≤ S ∧ FX5_scan_b1 fuel (nI i) tp R = nI e ∧ FX10_go_b0 fuel' f tr = upd f 6 (nI e)
  | _, _, 0, _, _, _, _, _, h, _ => absurd h (Nat.not_lt_zero _)
  | _, _, _ + 1, 0, _, _, _, _, _, h => absurd h (Nat.not_lt_zero _)
  | 0, i, fuel + 1, fuel' + 1, f, h, h5, h6, _, _ => by
    have c : nI S ≤ nI i := nI_le (by omega) (by omega)
    rw [OX5_scan_b1, OX10_go_b0, FX5_scan_b1, FX10_go_b0, h2, h5, h6, if_pos c, if_pos c]
    exact ⟨⟨fun _ => trivial, fun z => absurd c z⟩, ⟨fun _ => trivial, fun z => absurd c z⟩, i, Nat.le_refl _, by omega, rfl, (upd_self h6).symm⟩
  | m + 1, i, fuel + 1, fuel' + 1, f, h, h5, h6, _, _ => by
    have c : ¬ nI S ≤ nI i := nI_ge (by omega) (by omega)
    have ci : (nI i).toNatClampNeg = i := nI_clamp (by omega)
    have vi : vp_in (nI i) 700 := vp_in_nI (by omega) (by decide)
    have hb := hT i (by omega)
    have s32 : tp i = 32 ↔ tr i = 32 := BY_eq hb (show 32 < 128 by decide)
    have s10 : tp i = 10 ↔ tr i = 10 := BY_eq hb (show 10 < 128 by decide)
    obtain ⟨i1, i2, e, e1, e2, e3, e4⟩ := l_sp hT hS h2 m (i + 1) fuel fuel' (upd f 6 (nI (i + 1))) (by omega) ((pk_un (by decide)).trans h5) pk_us (by omega) (by omega)
    rw [upd_twice] at e4
    rw [OX5_scan_b1, OX10_go_b0, FX5_scan_b1, FX10_go_b0, h2, h5, h6, if_neg c, if_neg c, ci, nI_1]
    by_cases q : tp i = 32
    · have q' := s32.mp q
      rw [if_pos q, if_pos q']
      exact ⟨⟨fun z => absurd z c, fun _ => ⟨vi, fun _ => i1, fun z => absurd q z⟩⟩, ⟨fun z => absurd z c, fun _ => ⟨vi, fun _ => i2, fun z => absurd q' z⟩⟩, e, by omega, e2, e3, e4⟩
    · have q' : ¬ tr i = 32 := fun z => q (s32.mpr z)
      rw [if_neg q, if_neg q']
      by_cases p : tp i = 10
      · have p' := s10.mp p
        rw [if_pos p, if_pos p']
        exact ⟨⟨fun z => absurd z c, fun _ => ⟨vi, fun z => absurd z q, fun _ => ⟨vi, fun _ => i1, fun z => absurd p z⟩⟩⟩, ⟨fun z => absurd z c, fun _ => ⟨vi, fun z => absurd z q', fun _ => ⟨vi, fun _ => i2, fun z => absurd p' z⟩⟩⟩, e, by omega, e2, e3, e4⟩
      · have p' : ¬ tr i = 10 := fun z => p (s10.mpr z)
        rw [if_neg p, if_neg p']
        exact ⟨⟨fun z => absurd z c, fun _ => ⟨vi, fun z => absurd z q, fun _ => ⟨vi, fun z => absurd z p, fun _ => trivial⟩⟩⟩, ⟨fun z => absurd z c, fun _ => ⟨vi, fun z => absurd z q', fun _ => ⟨vi, fun z => absurd z p', fun _ => trivial⟩⟩⟩, i, Nat.le_refl _, by omega, rfl, (upd_self h6).symm⟩
theorem seen_e {k : Nat} (h5 : f 5 = nI S) (hk : k < 2 ^ 31) (hS : S ≤ 700) : OX10_seen (nI k) f tr ∧ FX10_seen (nI k) f tr = if S ≤ k then 0 else tr k := by
  unfold OX10_seen FX10_seen
  rw [h5]
  rcases Nat.lt_or_ge k S with q | q
  · have c : ¬ nI S ≤ nI k := nI_ge q (by omega)
    rw [if_neg c, if_neg (by omega), nI_clamp hk]
    exact ⟨⟨fun z => absurd z c, fun _ => vp_in_nI (by omega) (by decide)⟩, rfl⟩
  · have c : nI S ≤ nI k := nI_le q hk
    rw [if_pos c, if_pos q]
    exact ⟨⟨fun _ => trivial, fun z => absurd c z⟩, rfl⟩
theorem l_wd {p : Nat} (hT : TP tp tr) (hS : S ≤ 700) : ∀ (m i fuel fuel' : Nat) (R f : mF) (fl : mFl), i + m = S → p ≤ i → R 2 = nI S → f 5 = nI S → f 6 = nI i → f 7 = nI p → (i - p ≤ 6 → WDk (i - p) (R 8) (fl 12)) → m < fuel → m < fuel' → OX5_scanWord_b1 fuel (nI i) tp R ∧ OX10_go_b4 fuel' f fl tr ∧ ∃ (e : Nat) (R' f' : mF) (fl' : mFl), i ≤ e ∧ e ≤ S ∧ (i < S → ¬ FX5_isLetter (tp i) = 0 → i < e) ∧ FX5_scanWord_b1 fuel (nI i) tp R = (nI e, R') ∧ FX10_go_b4 fuel' f fl tr = (f', fl') ∧ (∀ k, k ≠ 8 → R' k = R k) ∧ (∀ k, k ≠ 6 → f' k = f k) ∧ f' 6 = nI e ∧ (e - p ≤ 6 → WDk (e - p) (R' 8) (fl' 12))
  | _, _, 0, _, _, _, _, _, _, _, _, _, _, _, h, _ => absurd h (Nat.not_lt_zero _)
  | _, _, _ + 1, 0, _, _, _, _, _, _, _, _, _, _, _, h => absurd h (Nat.not_lt_zero _)
  | 0, i, fuel + 1, fuel' + 1, R, f, fl, h, hp, h2, h5, h6, h7, hw, _, _ => by
    have c : nI S ≤ nI i := nI_le (by omega) (by omega)
    have n0 : FX10_isLetter 0 = 0 := rfl
    obtain ⟨s1, s2⟩ := seen_e (f := f) (tr := tr) (k := i) h5 (by omega) hS
    rw [if_pos (show S ≤ i by omega)] at s2
    rw [OX5_scanWord_b1, OX10_go_b4, FX5_scanWord_b1, FX10_go_b4, h2, h6, if_pos c, s2, n0]
    exact ⟨⟨fun _ => trivial, fun z => absurd c z⟩, ⟨s1, fun _ => trivial, fun z => absurd rfl z⟩, i, R, f, fl, Nat.le_refl _, by omega, fun z => by omega, rfl, if_pos rfl, fun _ _ => rfl, fun _ _ => rfl, h6, hw⟩
  | m + 1, i, fuel + 1, fuel' + 1, R, f, fl, h, hp, h2, h5, h6, h7, hw, _, _ => by
    have c : ¬ nI S ≤ nI i := nI_ge (by omega) (by omega)
    have ci : (nI i).toNatClampNeg = i := nI_clamp (by omega)
    have vi : vp_in (nI i) 700 := vp_in_nI (by omega) (by decide)
    obtain ⟨s1, s2⟩ := seen_e (f := f) (tr := tr) (k := i) h5 (by omega) hS
    rw [if_neg (show ¬ S ≤ i by omega)] at s2
    rw [OX5_scanWord_b1, OX10_go_b4, FX5_scanWord_b1, FX10_go_b4, h2, h6, h7, if_neg c, s2, ci, nI_1, nI_sub hp]
    dsimp only
    rcases BY_let (hT i (by omega)) with ⟨n, n1, n2, n3, n4, n5, n6⟩ | ⟨n5, n6⟩
    · have z5 : ¬ FX5_isLetter (tp i) = 0 := by rw [n5]; decide
      have z6 : ¬ FX10_isLetter (tr i) = 0 := by rw [n6]; decide
      rw [if_neg z5, if_neg z6]
      rcases Nat.lt_or_ge (i - p) 6 with q | q
      · have d : ¬ (6 : Int32) ≤ nI (i - p) := nI_ge q (by decide)
        have hw' : WDk (i + 1 - p) (FX5_pack (R 8) (tp i)) ((((27 : Int64) * (fl 12)) + (tr i).toInt64) - (96 : Int64)) := by
          rw [show i + 1 - p = i - p + 1 by omega, n3, n4]
          exact WDk_s (hw (by omega)) n1 n2
        obtain ⟨i1, i2, e, R', f', fl', e1, e2, -, e3, e4, e5, e6, e7, e8⟩ := l_wd (p := p) hT hS m (i + 1) fuel fuel' (upd R 8 (FX5_pack (R 8) (tp i))) (upd f 6 (nI (i + 1))) (vp_updL fl 12 ((((27 : Int64) * (fl 12)) + (tr i).toInt64) - (96 : Int64))) (by omega) (by omega) ((pk_un (by decide)).trans h2) ((pk_un (by decide)).trans h5) pk_us ((pk_un (by decide)).trans h7) (fun _ => by rw [pk_us, pk_uLs]; exact hw') (by omega) (by omega)
        rw [if_neg d]
        exact ⟨⟨fun z => absurd z c, fun _ => ⟨vi, fun z => absurd z z5, fun _ => ⟨vi, i1⟩⟩⟩, ⟨s1, fun z => absurd z z6, fun _ => ⟨fun z => absurd z d, fun _ => ⟨vi, i2⟩⟩⟩, e, R', f', fl', by omega, e2, fun _ _ => by omega, e3, e4, fun k hk => (e5 k hk).trans (pk_un hk), fun k hk => (e6 k hk).trans (pk_un hk), e7, e8⟩
      · have d : (6 : Int32) ≤ nI (i - p) := nI_le q (by omega)
        obtain ⟨i1, i2, e, R', f', fl', e1, e2, -, e3, e4, e5, e6, e7, e8⟩ := l_wd (p := p) hT hS m (i + 1) fuel fuel' (upd R 8 (FX5_pack (R 8) (tp i))) (upd f 6 (nI (i + 1))) fl (by omega) (by omega) ((pk_un (by decide)).trans h2) ((pk_un (by decide)).trans h5) pk_us ((pk_un (by decide)).trans h7) (fun z => by omega) (by omega) (by omega)
        rw [if_pos d]
        exact ⟨⟨fun z => absurd z c, fun _ => ⟨vi, fun z => absurd z z5, fun _ => ⟨vi, i1⟩⟩⟩, ⟨s1, fun z => absurd z z6, fun _ => ⟨fun _ => i2, fun z => absurd d z⟩⟩, e, R', f', fl', by omega, e2, fun _ _ => by omega, e3, e4, fun k hk => (e5 k hk).trans (pk_un hk), fun k hk => (e6 k hk).trans (pk_un hk), e7, e8⟩
    · rw [if_pos n5, if_pos n6]
      exact ⟨⟨fun z => absurd z c, fun _ => ⟨vi, fun _ => trivial, fun z => absurd n5 z⟩⟩, ⟨s1, fun _ => trivial, fun z => absurd n6 z⟩, i, R, f, fl, Nat.le_refl _, by omega, fun _ z => absurd n5 z, rfl, rfl, fun _ _ => rfl, fun _ _ => rfl, h6, hw⟩
theorem num_e (v : Int32) (t : Int32) : v * 10 + (t - 48) = 10 * v + t - 48 := by
  rw [Int32.mul_comm, Int32.sub_eq_add_neg, Int32.sub_eq_add_neg, Int32.add_assoc]
theorem l_nm {s : Nat} {y1 y2 z : Int32} (hT : TP tp tr) (hS : S ≤ 700) : ∀ (m i fuel fuel' : Nat) (R f : mF), i + m = S → s ≤ i → R 2 = nI S → f 5 = nI S → f 6 = nI i → (i - s ≤ 4 → R 8 = f 9) → m < fuel → m < fuel' → OX5_scanNumber_b5 fuel y1 y2 (nI i) tp R ∧ OX10_go_b12 fuel' z (nI s) f tr ∧ ∃ (e : Nat) (R' f' : mF), i ≤ e ∧ e ≤ S ∧ (i < S → ¬ FX5_isDigit (tp i) = 0 → i < e) ∧ (S ≤ i ∨ FX5_isDigit (tp i) = 0 → e = i) ∧ FX5_scanNumber_b5 fuel y1 y2 (nI i) tp R = (nI e, R') ∧ FX10_go_b12 fuel' z (nI s) f tr = f' ∧ (∀ k, k ≠ 8 → R' k = R k) ∧ (∀ k, k ≠ 6 → k ≠ 9 → f' k = f k) ∧ f' 6 = nI e ∧ (e - s ≤ 4 → R' 8 = f' 9)
  | _, _, 0, _, _, _, _, _, _, _, _, _, h, _ => absurd h (Nat.not_lt_zero _)
  | _, _, _ + 1, 0, _, _, _, _, _, _, _, _, _, h => absurd h (Nat.not_lt_zero _)
  | 0, i, fuel + 1, fuel' + 1, R, f, h, hp, h2, h5, h6, hw, _, _ => by
    have c : nI S ≤ nI i := nI_le (by omega) (by omega)
    have n0 : FX10_isDigit 0 = 0 := rfl
    obtain ⟨s1, s2⟩ := seen_e (f := f) (tr := tr) (k := i) h5 (by omega) hS
    rw [if_pos (show S ≤ i by omega)] at s2
    rw [OX5_scanNumber_b5, OX10_go_b12, FX5_scanNumber_b5, FX10_go_b12, h2, h6, if_pos c, s2, n0]
    exact ⟨⟨fun _ => trivial, fun z => absurd c z⟩, ⟨s1, fun _ => trivial, fun z => absurd rfl z⟩, i, R, f, Nat.le_refl _, by omega, fun z => by omega, fun _ => rfl, rfl, if_pos rfl, fun _ _ => rfl, fun _ _ _ => rfl, h6, hw⟩
  | m + 1, i, fuel + 1, fuel' + 1, R, f, h, hp, h2, h5, h6, hw, _, _ => by
    have c : ¬ nI S ≤ nI i := nI_ge (by omega) (by omega)
    have ci : (nI i).toNatClampNeg = i := nI_clamp (by omega)
    have vi : vp_in (nI i) 700 := vp_in_nI (by omega) (by decide)
    obtain ⟨s1, s2⟩ := seen_e (f := f) (tr := tr) (k := i) h5 (by omega) hS
    rw [if_neg (show ¬ S ≤ i by omega)] at s2
    rw [OX5_scanNumber_b5, OX10_go_b12, FX5_scanNumber_b5, FX10_go_b12, h2, h6, if_neg c, s2, ci, nI_1, nI_sub hp]
    dsimp only
    rcases BY_dig (hT i (by omega)) with ⟨n, n1, n2, n3, n4, n5, n6⟩ | ⟨n5, n6⟩
    · have z5 : ¬ FX5_isDigit (tp i) = 0 := by rw [n5]; decide
      have z6 : ¬ FX10_isDigit (tr i) = 0 := by rw [n6]; decide
      rw [if_neg z5, if_neg z6]
      rcases Nat.lt_or_ge (i - s) 4 with q | q
      · have d : ¬ (4 : Int32) ≤ nI (i - s) := nI_ge q (by decide)
        have hw' : R 8 * 10 + (tp i - 48) = 10 * f 9 + tr i - 48 := by
          rw [num_e, hw (by omega), n3, n4]
        obtain ⟨i1, i2, e, R', f', e1, e2, -, -, e3, e4, e5, e6, e7, e8⟩ := l_nm (s := s) (y1 := y1) (y2 := y2) (z := z) hT hS m (i + 1) fuel fuel' (upd R 8 (R 8 * 10 + (tp i - 48))) (upd (upd f 9 (10 * f 9 + tr i - 48)) 6 (nI (i + 1))) (by omega) (by omega) ((pk_un (by decide)).trans h2) (((pk_un (by decide)).trans (pk_un (by decide))).trans h5) pk_us (fun _ => by rw [pk_us, pk_un (by decide), pk_us]; exact hw') (by omega) (by omega)
        rw [if_neg d]
        exact ⟨⟨fun z => absurd z c, fun _ => ⟨vi, fun z => absurd z z5, fun _ => ⟨vi, i1⟩⟩⟩, ⟨s1, fun z => absurd z z6, fun _ => ⟨fun z => absurd z d, fun _ => ⟨vi, i2⟩⟩⟩, e, R', f', by omega, e2, fun _ _ => by omega, fun q => q.elim (fun q => by omega) (fun q => absurd q z5), e3, e4, fun k hk => (e5 k hk).trans (pk_un hk), fun k hk hk' => (e6 k hk hk').trans ((pk_un hk).trans (pk_un hk')), e7, e8⟩
      · have d : (4 : Int32) ≤ nI (i - s) := nI_le q (by omega)
        obtain ⟨i1, i2, e, R', f', e1, e2, -, -, e3, e4, e5, e6, e7, e8⟩ := l_nm (s := s) (y1 := y1) (y2 := y2) (z := z) hT hS m (i + 1) fuel fuel' (upd R 8 (R 8 * 10 + (tp i - 48))) (upd f 6 (nI (i + 1))) (by omega) (by omega) ((pk_un (by decide)).trans h2) ((pk_un (by decide)).trans h5) pk_us (fun z => by omega) (by omega) (by omega)
        rw [if_pos d]
        exact ⟨⟨fun z => absurd z c, fun _ => ⟨vi, fun z => absurd z z5, fun _ => ⟨vi, i1⟩⟩⟩, ⟨s1, fun z => absurd z z6, fun _ => ⟨fun _ => i2, fun z => absurd d z⟩⟩, e, R', f', by omega, e2, fun _ _ => by omega, fun q => q.elim (fun q => by omega) (fun q => absurd q z5), e3, e4, fun k hk => (e5 k hk).trans (pk_un hk), fun k hk hk' => (e6 k hk hk').trans (pk_un hk), e7, e8⟩
    · rw [if_pos n5, if_pos n6]
      exact ⟨⟨fun z => absurd z c, fun _ => ⟨vi, fun _ => trivial, fun z => absurd n5 z⟩⟩, ⟨s1, fun _ => trivial, fun z => absurd n6 z⟩, i, R, f, Nat.le_refl _, by omega, fun _ z => absurd n5 z, fun _ => rfl, rfl, rfl, fun _ _ => rfl, fun _ _ _ => rfl, h6, hw⟩
end TKS
