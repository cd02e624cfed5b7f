/-! PURE: letters, digits and words of the tape (GENERATED, wip/gen/p/74.py) -/
theorem toI_nI {n : Nat} (h : n < 2 ^ 31) : (nI n).toInt = (n : Int) := by
  have := pk_sub_toInt (a := n) (b := 0)
  show (Int32.ofNat n).toInt = n
  rw [Int32.toInt_ofNat_of_lt (by omega)]
theorem BY_n {a b : Int32} (h : BY a b) : (∃ n : Nat, n < 128 ∧ a = nI n ∧ b = nI n) ∨ (a < 0 ∧ ∃ n : Nat, 128 ≤ n ∧ n < 256 ∧ b = nI n) := by
  obtain ⟨n, hn, e, ea⟩ := h
  rcases Nat.lt_or_ge n 128 with q | q
  · rw [if_pos q] at ea
    exact Or.inl ⟨n, q, Int32.toInt_inj.mp (ea.trans (toI_nI (by omega)).symm), e⟩
  · rw [if_neg (by omega)] at ea
    refine Or.inr ⟨?_, n, q, hn, e⟩
    rw [Int32.lt_iff_toInt_lt, ea]
    show (n : Int) - 256 < 0
    omega
theorem BY_eq {a b : Int32} (h : BY a b) {c : Nat} (hc : c < 128) : a = nI c ↔ b = nI c := by
  rcases BY_n h with ⟨n, hn, e1, e2⟩ | ⟨h0, n, h1, h2, e⟩
  · rw [e1, e2]
  · rw [e]
    constructor
    · intro q
      rw [q] at h0
      exact absurd h0 (nI_pos (by omega))
    · intro q
      have := (nI_eq (by omega) (by omega)).mp q
      omega
theorem let_n {n : Nat} (h : n < 256) : (97 ≤ n ∧ n ≤ 122 ∧ FX10_isLetter (nI n) = 1) ∨ ((n < 97 ∨ 122 < n) ∧ FX10_isLetter (nI n) = 0) := by
  unfold FX10_isLetter
  rcases Nat.lt_or_ge n 97 with q | q
  · rw [if_pos (show nI n < 97 from nI_lt q (by decide))]
    exact Or.inr ⟨Or.inl q, rfl⟩
  · rw [if_neg (show ¬ nI n < 97 from fun z => by have := (nI_ltI (a := n) (b := 97) (by omega) (by decide)).mp z; omega)]
    rcases Nat.lt_or_ge 122 n with r | r
    · rw [if_pos (show (122 : Int32) < nI n from nI_lt r (by omega))]
      exact Or.inr ⟨Or.inr r, rfl⟩
    · rw [if_neg (show ¬ (122 : Int32) < nI n from fun z => by have := (nI_ltI (a := 122) (b := n) (by decide) (by omega)).mp z; omega)]
      exact Or.inl ⟨q, r, rfl⟩
theorem dig_n {n : Nat} (h : n < 256) : (48 ≤ n ∧ n ≤ 57 ∧ FX10_isDigit (nI n) = 1) ∨ ((n < 48 ∨ 57 < n) ∧ FX10_isDigit (nI n) = 0) := by
  unfold FX10_isDigit
  rcases Nat.lt_or_ge n 48 with q | q
  · rw [if_pos (show nI n < 48 from nI_lt q (by decide))]
    exact Or.inr ⟨Or.inl q, rfl⟩
  · rw [if_neg (show ¬ nI n < 48 from fun z => by have := (nI_ltI (a := n) (b := 48) (by omega) (by decide)).mp z; omega)]
    rcases Nat.lt_or_ge 57 n with r | r
    · rw [if_pos (show (57 : Int32) < nI n from nI_lt r (by omega))]
      exact Or.inr ⟨Or.inr r, rfl⟩
    · rw [if_neg (show ¬ (57 : Int32) < nI n from fun z => by have := (nI_ltI (a := 57) (b := n) (by decide) (by omega)).mp z; omega)]
      exact Or.inl ⟨q, r, rfl⟩
theorem neg_let {a : Int32} (h : a < 0) : FX5_isLetter a = 0 ∧ FX5_isDigit a = 0 := by
  have c1 : a < 97 := by
    rw [Int32.lt_iff_toInt_lt] at h ⊢
    have : (97 : Int32).toInt = 97 := rfl
    have : (0 : Int32).toInt = 0 := rfl
    omega
  have c2 : a < 48 := by
    rw [Int32.lt_iff_toInt_lt] at h ⊢
    have : (48 : Int32).toInt = 48 := rfl
    have : (0 : Int32).toInt = 0 := rfl
    omega
  exact ⟨if_pos c1, if_pos c2⟩
theorem BY_let {a b : Int32} (h : BY a b) : (∃ n : Nat, 97 ≤ n ∧ n ≤ 122 ∧ a = nI n ∧ b = nI n ∧ FX5_isLetter a = 1 ∧ FX10_isLetter b = 1) ∨ (FX5_isLetter a = 0 ∧ FX10_isLetter b = 0) := by
  rcases BY_n h with ⟨n, hn, e1, e2⟩ | ⟨h0, n, h1, h2, e⟩
  · rcases let_n (n := n) (by omega) with ⟨q1, q2, q3⟩ | ⟨-, q3⟩
    · exact Or.inl ⟨n, q1, q2, e1, e2, by rw [e1]; exact q3, by rw [e2]; exact q3⟩
    · exact Or.inr ⟨by rw [e1]; exact q3, by rw [e2]; exact q3⟩
  · rcases let_n (n := n) (by omega) with ⟨q1, q2, q3⟩ | ⟨-, q3⟩
    · omega
    · exact Or.inr ⟨(neg_let h0).1, by rw [e]; exact q3⟩
theorem BY_dig {a b : Int32} (h : BY a b) : (∃ n : Nat, 48 ≤ n ∧ n ≤ 57 ∧ a = nI n ∧ b = nI n ∧ FX5_isDigit a = 1 ∧ FX10_isDigit b = 1) ∨ (FX5_isDigit a = 0 ∧ FX10_isDigit b = 0) := by
  rcases BY_n h with ⟨n, hn, e1, e2⟩ | ⟨h0, n, h1, h2, e⟩
  · rcases dig_n (n := n) (by omega) with ⟨q1, q2, q3⟩ | ⟨-, q3⟩
    · exact Or.inl ⟨n, q1, q2, e1, e2, by rw [e1]; exact q3, by rw [e2]; exact q3⟩
    · exact Or.inr ⟨by rw [e1]; exact q3, by rw [e2]; exact q3⟩
  · rcases dig_n (n := n) (by omega) with ⟨q1, q2, q3⟩ | ⟨-, q3⟩
    · omega
    · exact Or.inr ⟨(neg_let h0).2, by rw [e]; exact q3⟩
/-- letters, the last one first, as one number -/
def enc (B : Nat) : List Nat → Nat
  | [] => 0
  | c :: l => B * enc B l + c
def LW (l : List Nat) : Prop := ∀ c, c ∈ l → 1 ≤ c ∧ c ≤ 26
theorem enc_lt {B : Nat} (hB : 27 ≤ B) : ∀ l, LW l → enc B l < B ^ l.length
  | [], _ => Nat.one_pos
  | c :: l, h => by
    have i := enc_lt hB l (fun d hd => h d (List.mem_cons_of_mem _ hd))
    have hc := h c List.mem_cons_self
    show B * enc B l + c < B ^ (l.length + 1)
    rw [Nat.pow_succ, Nat.mul_comm (B ^ l.length) B]
    have : B * (enc B l + 1) ≤ B * B ^ l.length := Nat.mul_le_mul_left B i
    rw [Nat.mul_add, Nat.mul_one] at this
    omega
theorem enc_inj {B : Nat} (hB : 27 ≤ B) : ∀ l l', LW l → LW l' → enc B l = enc B l' → l = l'
  | [], [], _, _, _ => rfl
  | [], c :: l, _, h, e => by
    have hc := h c List.mem_cons_self
    have e : 0 = B * enc B l + c := e
    omega
  | c :: l, [], h, _, e => by
    have hc := h c List.mem_cons_self
    have e : B * enc B l + c = 0 := e
    omega
  | c :: l, d :: l', h, h', e => by
    have hc := h c List.mem_cons_self
    have hd := h' d List.mem_cons_self
    have e : B * enc B l + c = B * enc B l' + d := e
    have e1 : c = d := by
      have a := congrArg (· % B) e
      simp only [Nat.mul_add_mod] at a
      rw [Nat.mod_eq_of_lt (by omega), Nat.mod_eq_of_lt (by omega)] at a
      exact a
    subst e1
    have e2 : enc B l = enc B l' := Nat.eq_of_mul_eq_mul_left (show 0 < B by omega) (by omega)
    rw [enc_inj hB l l' (fun d hd => h d (List.mem_cons_of_mem _ hd)) (fun d hd => h' d (List.mem_cons_of_mem _ hd)) e2]
def WDk (k : Nat) (x : Int32) (y : Int64) : Prop := ∃ l : List Nat, LW l ∧ l.length = k ∧ x = nI (enc 32 l) ∧ y = lN (enc 27 l)
/-- one WORD on both sides -/
def WD (x : Int32) (y : Int64) : Prop := ∃ k : Nat, k ≤ 6 ∧ WDk k x y
theorem enc_b {l : List Nat} (h : LW l) (hl : l.length ≤ 6) : enc 32 l < 2 ^ 31 ∧ enc 27 l < 2 ^ 63 := by
  have a := enc_lt (B := 32) (by decide) l h
  have b := enc_lt (B := 27) (by decide) l h
  have c : 32 ^ l.length ≤ 32 ^ 6 := Nat.pow_le_pow_right (by decide) hl
  have d : 27 ^ l.length ≤ 27 ^ 6 := Nat.pow_le_pow_right (by decide) hl
  exact ⟨Nat.lt_of_lt_of_le a (Nat.le_trans c (by decide)), Nat.lt_of_lt_of_le b (Nat.le_trans d (by decide))⟩
theorem WD_eq {x x' : Int32} {y y' : Int64} (h : WD x y) (h' : WD x' y') : x = x' ↔ y = y' := by
  obtain ⟨k, hk, l, a, b, rfl, rfl⟩ := h
  obtain ⟨k', hk', l', a', b', rfl, rfl⟩ := h'
  have c := enc_b a (by omega)
  have c' := enc_b a' (by omega)
  rw [nI_eq c.1 c'.1, pk_lEQ c.2 c'.2]
  constructor
  · intro e
    rw [enc_inj (by decide) l l' a a' e]
  · intro e
    rw [enc_inj (by decide) l l' a a' e]
theorem cmp_0 {x y : Int64} : lg_cmp x y = 0 ↔ x = y := by
  unfold lg_cmp
  constructor
  · intro h
    split at h
    · exact absurd h (by decide)
    · split at h
      · assumption
      · exact absurd h (by decide)
  · rintro rfl
    rw [if_neg (fun z => by rw [gt_iff_lt, Int64.lt_iff_toInt_lt] at z; omega), if_pos rfl]
theorem WD_c {x x' : Int32} {y y' : Int64} (h : WD x y) (h' : WD x' y') : x = x' ↔ lg_cmp y y' = 0 := (WD_eq h h').trans cmp_0.symm
theorem lN_nI {n : Nat} (h : n < 2 ^ 31) : (nI n).toInt64 = lN n := by
  rw [← Int64.toInt_inj, Int32.toInt_toInt64, toI_nI h, pk_lT (by omega)]
theorem WDk_s {k n : Nat} {x : Int32} {y : Int64} (h : WDk k x y) (h1 : 97 ≤ n) (h2 : n ≤ 122) : WDk (k + 1) (FX5_pack x (nI n)) ((((27 : Int64) * y) + (nI n).toInt64) - (96 : Int64)) := by
  obtain ⟨l, a, b, rfl, rfl⟩ := h
  refine ⟨(n - 96) :: l, fun c hc => ?_, by rw [List.length_cons, b], ?_, ?_⟩
  · rcases List.mem_cons.mp hc with q | q
    · omega
    · exact a c q
  · show nI (enc 32 l) * nI 32 + (nI n - nI 97 + 1) = nI (32 * enc 32 l + (n - 96))
    rw [nI_mul, nI_sub (by omega), nI_1, nI_add]
    congr 1
    omega
  · rw [lN_nI (by omega)]
    show lN 27 * lN (enc 27 l) + lN n - lN 96 = lN (27 * enc 27 l + (n - 96))
    rw [lN_mul, lN_add, lN_sub (by omega)]
    congr 1
    omega
