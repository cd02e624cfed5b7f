/-! PURE: numbers, the reference's block of one machine, its sticky flag (GENERATED, wip/gen/p/19.py) -/
def emb (b : Nat) (n g : mF) : mF := fun j => if b ≤ j ∧ j < b + 174 then g (j - b) else n j
theorem upd_at {f : mF} {k j : Nat} {x : Int32} : upd f k x j = if j = k then x else f j := rfl
theorem upd_self {f : mF} {k : Nat} {x : Int32} (h : f k = x) : upd f k x = f := by
  funext j
  rw [upd_at]
  split
  · rename_i e; rw [e, h]
  · rfl
theorem upd_twice {f : mF} {k : Nat} {x y : Int32} : upd (upd f k x) k y = upd f k y := by
  funext j
  simp only [upd_at]
  split <;> rfl
theorem upd_comm {f : mF} {k l : Nat} {x y : Int32} (h : k ≠ l) : upd (upd f k x) l y = upd (upd f l y) k x := by
  funext j
  simp only [upd_at]
  by_cases h1 : j = k
  · subst h1; rw [if_neg h, if_pos rfl, if_pos rfl]
  · rw [if_neg h1, if_neg h1]
theorem emb_at {b k : Nat} {n g : mF} (h : k < 174) : emb b n g (b + k) = g k := by
  unfold emb
  rw [if_pos (by omega), Nat.add_sub_cancel_left]
theorem emb_out {b j : Nat} {n g : mF} (h : j < b ∨ b + 174 ≤ j) : emb b n g j = n j := by
  unfold emb
  rw [if_neg (by omega)]
theorem emb_upd {b k : Nat} {n g : mF} {x : Int32} (h : k < 174) : upd (emb b n g) (b + k) x = emb b n (upd g k x) := by
  funext j
  rw [upd_at]
  unfold emb
  by_cases h1 : j = b + k
  · subst h1
    rw [if_pos rfl, if_pos (by omega), Nat.add_sub_cancel_left, upd_at, if_pos rfl]
  · rw [if_neg h1]
    by_cases h2 : b ≤ j ∧ j < b + 174
    · rw [if_pos h2, if_pos h2, upd_at, if_neg (by omega)]
    · rw [if_neg h2, if_neg h2]
theorem emb_upo {b j : Nat} {n g : mF} {x : Int32} (h : j < b ∨ b + 174 ≤ j) : upd (emb b n g) j x = emb b (upd n j x) g := by
  funext i
  rw [upd_at]
  unfold emb
  by_cases h1 : i = j
  · subst h1
    rw [if_pos rfl, if_neg (by omega), upd_at, if_pos rfl]
  · rw [if_neg h1, upd_at, if_neg h1]
theorem emb_self {b : Nat} {n : mF} : emb b n (fun k => n (b + k)) = n := by
  funext j
  unfold emb
  by_cases h : b ≤ j ∧ j < b + 174
  · rw [if_pos h]
    show n (b + (j - b)) = n j
    rw [show b + (j - b) = j by omega]
  · rw [if_neg h]
def fb (f : mF) (z : Int32) : mF := upd f 46 z
theorem fb_46 {f : mF} {z : Int32} : fb f z 46 = z := pk_us
theorem fb_ne {f : mF} {z : Int32} {k : Nat} (h : k ≠ 46) : fb f z k = f k := pk_un h
/-- where the machine's block begins -/
def Hb (f : mF) (b : Nat) : Prop := f 45 = nI b ∧ (b = 0 ∨ b = 174)
theorem Hb.ad {f : mF} {b k : Nat} {z x : Int32} (H : Hb f b) (hk : k < 174) (e : x = nI k) : (fb f z 45 + x).toNatClampNeg = b + k := by
  rw [fb_ne (by decide), H.1, e, nI_add, nI_clamp (by rcases H.2 with h | h <;> omega)]
theorem Hb.vp {f : mF} {b k : Nat} {z x : Int32} (H : Hb f b) (hk : k < 174) (e : x = nI k) : vp_in (fb f z 45 + x) 532 := by
  rw [fb_ne (by decide), H.1, e, nI_add]
  exact vp_in_nI (by rcases H.2 with h | h <;> omega) (by decide)
theorem needs_ok {f : mF} {x : Int32} (h : ¬ x = 0) : FX10_needs x (fb f 0) = (0, fb f 0) := by
  unfold FX10_needs
  rw [fb_46, if_pos rfl, if_neg h]
  unfold fb
  rw [upd_twice]
theorem needs_bad {f : mF} {z : Int32} : FX10_needs 0 (fb f z) = (0, fb f 1) := by
  unfold FX10_needs
  rw [fb_46]
  unfold fb
  split
  · rw [if_pos rfl, upd_twice]
  · rw [upd_twice]
theorem needs_1 {f : mF} {x : Int32} : FX10_needs x (fb f 1) = (0, fb f 1) := by
  unfold FX10_needs
  rw [fb_46, if_neg (by decide)]
  unfold fb
  rw [upd_twice]
section BLK
variable {f n g : mF} {b : Nat} {z : Int32}
theorem get_e (H : Hb f b) {k : Nat} {x : Int32} (hk : k < 174) (e : x = nI k) : FX10_get x (fb f z) (emb b n g) = g k := by
  unfold FX10_get
  rw [H.ad hk e, emb_at hk]
theorem set_e (H : Hb f b) {k : Nat} {x v : Int32} (hk : k < 174) (e : x = nI k) : FX10_set x v (fb f z) (emb b n g) = (0, emb b n (upd g k v)) := by
  unfold FX10_set
  rw [H.ad hk e, emb_upd hk]
theorem oget_e (H : Hb f b) {k : Nat} {x : Int32} {m : mF} (hk : k < 174) (e : x = nI k) : OX10_get x (fb f z) m = True := eq_true (H.vp hk e)
theorem oset_e (H : Hb f b) {k : Nat} {x v : Int32} {m : mF} (hk : k < 174) (e : x = nI k) : OX10_set x v (fb f z) m = True := eq_true (H.vp hk e)
theorem g96 (H : Hb f b) : FX10_get 96 (fb f z) (emb b n g) = g 96 := get_e H (by decide) rfl
theorem s96 (H : Hb f b) {v : Int32} : FX10_set 96 v (fb f z) (emb b n g) = (0, emb b n (upd g 96 v)) := set_e H (by decide) rfl
theorem og96 (H : Hb f b) {m : mF} : OX10_get 96 (fb f z) m = True := oget_e H (k := 96) (by decide) rfl
theorem os96 (H : Hb f b) {m : mF} {v : Int32} : OX10_set 96 v (fb f z) m = True := oset_e H (k := 96) (by decide) rfl
theorem g97 (H : Hb f b) : FX10_get 97 (fb f z) (emb b n g) = g 97 := get_e H (by decide) rfl
theorem s97 (H : Hb f b) {v : Int32} : FX10_set 97 v (fb f z) (emb b n g) = (0, emb b n (upd g 97 v)) := set_e H (by decide) rfl
theorem og97 (H : Hb f b) {m : mF} : OX10_get 97 (fb f z) m = True := oget_e H (k := 97) (by decide) rfl
theorem os97 (H : Hb f b) {m : mF} {v : Int32} : OX10_set 97 v (fb f z) m = True := oset_e H (k := 97) (by decide) rfl
theorem g98 (H : Hb f b) : FX10_get 98 (fb f z) (emb b n g) = g 98 := get_e H (by decide) rfl
theorem s98 (H : Hb f b) {v : Int32} : FX10_set 98 v (fb f z) (emb b n g) = (0, emb b n (upd g 98 v)) := set_e H (by decide) rfl
theorem og98 (H : Hb f b) {m : mF} : OX10_get 98 (fb f z) m = True := oget_e H (k := 98) (by decide) rfl
theorem os98 (H : Hb f b) {m : mF} {v : Int32} : OX10_set 98 v (fb f z) m = True := oset_e H (k := 98) (by decide) rfl
theorem g99 (H : Hb f b) : FX10_get 99 (fb f z) (emb b n g) = g 99 := get_e H (by decide) rfl
theorem s99 (H : Hb f b) {v : Int32} : FX10_set 99 v (fb f z) (emb b n g) = (0, emb b n (upd g 99 v)) := set_e H (by decide) rfl
theorem og99 (H : Hb f b) {m : mF} : OX10_get 99 (fb f z) m = True := oget_e H (k := 99) (by decide) rfl
theorem os99 (H : Hb f b) {m : mF} {v : Int32} : OX10_set 99 v (fb f z) m = True := oset_e H (k := 99) (by decide) rfl
theorem g100 (H : Hb f b) : FX10_get 100 (fb f z) (emb b n g) = g 100 := get_e H (by decide) rfl
theorem s100 (H : Hb f b) {v : Int32} : FX10_set 100 v (fb f z) (emb b n g) = (0, emb b n (upd g 100 v)) := set_e H (by decide) rfl
theorem og100 (H : Hb f b) {m : mF} : OX10_get 100 (fb f z) m = True := oget_e H (k := 100) (by decide) rfl
theorem os100 (H : Hb f b) {m : mF} {v : Int32} : OX10_set 100 v (fb f z) m = True := oset_e H (k := 100) (by decide) rfl
theorem g101 (H : Hb f b) : FX10_get 101 (fb f z) (emb b n g) = g 101 := get_e H (by decide) rfl
theorem s101 (H : Hb f b) {v : Int32} : FX10_set 101 v (fb f z) (emb b n g) = (0, emb b n (upd g 101 v)) := set_e H (by decide) rfl
theorem og101 (H : Hb f b) {m : mF} : OX10_get 101 (fb f z) m = True := oget_e H (k := 101) (by decide) rfl
theorem os101 (H : Hb f b) {m : mF} {v : Int32} : OX10_set 101 v (fb f z) m = True := oset_e H (k := 101) (by decide) rfl
theorem g102 (H : Hb f b) : FX10_get 102 (fb f z) (emb b n g) = g 102 := get_e H (by decide) rfl
theorem s102 (H : Hb f b) {v : Int32} : FX10_set 102 v (fb f z) (emb b n g) = (0, emb b n (upd g 102 v)) := set_e H (by decide) rfl
theorem og102 (H : Hb f b) {m : mF} : OX10_get 102 (fb f z) m = True := oget_e H (k := 102) (by decide) rfl
theorem os102 (H : Hb f b) {m : mF} {v : Int32} : OX10_set 102 v (fb f z) m = True := oset_e H (k := 102) (by decide) rfl
theorem g103 (H : Hb f b) : FX10_get 103 (fb f z) (emb b n g) = g 103 := get_e H (by decide) rfl
theorem s103 (H : Hb f b) {v : Int32} : FX10_set 103 v (fb f z) (emb b n g) = (0, emb b n (upd g 103 v)) := set_e H (by decide) rfl
theorem og103 (H : Hb f b) {m : mF} : OX10_get 103 (fb f z) m = True := oget_e H (k := 103) (by decide) rfl
theorem os103 (H : Hb f b) {m : mF} {v : Int32} : OX10_set 103 v (fb f z) m = True := oset_e H (k := 103) (by decide) rfl
theorem g104 (H : Hb f b) : FX10_get 104 (fb f z) (emb b n g) = g 104 := get_e H (by decide) rfl
theorem s104 (H : Hb f b) {v : Int32} : FX10_set 104 v (fb f z) (emb b n g) = (0, emb b n (upd g 104 v)) := set_e H (by decide) rfl
theorem og104 (H : Hb f b) {m : mF} : OX10_get 104 (fb f z) m = True := oget_e H (k := 104) (by decide) rfl
theorem os104 (H : Hb f b) {m : mF} {v : Int32} : OX10_set 104 v (fb f z) m = True := oset_e H (k := 104) (by decide) rfl
theorem g105 (H : Hb f b) : FX10_get 105 (fb f z) (emb b n g) = g 105 := get_e H (by decide) rfl
theorem s105 (H : Hb f b) {v : Int32} : FX10_set 105 v (fb f z) (emb b n g) = (0, emb b n (upd g 105 v)) := set_e H (by decide) rfl
theorem og105 (H : Hb f b) {m : mF} : OX10_get 105 (fb f z) m = True := oget_e H (k := 105) (by decide) rfl
theorem os105 (H : Hb f b) {m : mF} {v : Int32} : OX10_set 105 v (fb f z) m = True := oset_e H (k := 105) (by decide) rfl
theorem g106 (H : Hb f b) : FX10_get 106 (fb f z) (emb b n g) = g 106 := get_e H (by decide) rfl
theorem s106 (H : Hb f b) {v : Int32} : FX10_set 106 v (fb f z) (emb b n g) = (0, emb b n (upd g 106 v)) := set_e H (by decide) rfl
theorem og106 (H : Hb f b) {m : mF} : OX10_get 106 (fb f z) m = True := oget_e H (k := 106) (by decide) rfl
theorem os106 (H : Hb f b) {m : mF} {v : Int32} : OX10_set 106 v (fb f z) m = True := oset_e H (k := 106) (by decide) rfl
theorem g107 (H : Hb f b) : FX10_get 107 (fb f z) (emb b n g) = g 107 := get_e H (by decide) rfl
theorem s107 (H : Hb f b) {v : Int32} : FX10_set 107 v (fb f z) (emb b n g) = (0, emb b n (upd g 107 v)) := set_e H (by decide) rfl
theorem og107 (H : Hb f b) {m : mF} : OX10_get 107 (fb f z) m = True := oget_e H (k := 107) (by decide) rfl
theorem os107 (H : Hb f b) {m : mF} {v : Int32} : OX10_set 107 v (fb f z) m = True := oset_e H (k := 107) (by decide) rfl
theorem g108 (H : Hb f b) : FX10_get 108 (fb f z) (emb b n g) = g 108 := get_e H (by decide) rfl
theorem s108 (H : Hb f b) {v : Int32} : FX10_set 108 v (fb f z) (emb b n g) = (0, emb b n (upd g 108 v)) := set_e H (by decide) rfl
theorem og108 (H : Hb f b) {m : mF} : OX10_get 108 (fb f z) m = True := oget_e H (k := 108) (by decide) rfl
theorem os108 (H : Hb f b) {m : mF} {v : Int32} : OX10_set 108 v (fb f z) m = True := oset_e H (k := 108) (by decide) rfl
theorem g109 (H : Hb f b) : FX10_get 109 (fb f z) (emb b n g) = g 109 := get_e H (by decide) rfl
theorem s109 (H : Hb f b) {v : Int32} : FX10_set 109 v (fb f z) (emb b n g) = (0, emb b n (upd g 109 v)) := set_e H (by decide) rfl
theorem og109 (H : Hb f b) {m : mF} : OX10_get 109 (fb f z) m = True := oget_e H (k := 109) (by decide) rfl
theorem os109 (H : Hb f b) {m : mF} {v : Int32} : OX10_set 109 v (fb f z) m = True := oset_e H (k := 109) (by decide) rfl
theorem g110 (H : Hb f b) : FX10_get 110 (fb f z) (emb b n g) = g 110 := get_e H (by decide) rfl
theorem s110 (H : Hb f b) {v : Int32} : FX10_set 110 v (fb f z) (emb b n g) = (0, emb b n (upd g 110 v)) := set_e H (by decide) rfl
theorem og110 (H : Hb f b) {m : mF} : OX10_get 110 (fb f z) m = True := oget_e H (k := 110) (by decide) rfl
theorem os110 (H : Hb f b) {m : mF} {v : Int32} : OX10_set 110 v (fb f z) m = True := oset_e H (k := 110) (by decide) rfl
theorem g111 (H : Hb f b) : FX10_get 111 (fb f z) (emb b n g) = g 111 := get_e H (by decide) rfl
theorem s111 (H : Hb f b) {v : Int32} : FX10_set 111 v (fb f z) (emb b n g) = (0, emb b n (upd g 111 v)) := set_e H (by decide) rfl
theorem og111 (H : Hb f b) {m : mF} : OX10_get 111 (fb f z) m = True := oget_e H (k := 111) (by decide) rfl
theorem os111 (H : Hb f b) {m : mF} {v : Int32} : OX10_set 111 v (fb f z) m = True := oset_e H (k := 111) (by decide) rfl
theorem g112 (H : Hb f b) : FX10_get 112 (fb f z) (emb b n g) = g 112 := get_e H (by decide) rfl
theorem s112 (H : Hb f b) {v : Int32} : FX10_set 112 v (fb f z) (emb b n g) = (0, emb b n (upd g 112 v)) := set_e H (by decide) rfl
theorem og112 (H : Hb f b) {m : mF} : OX10_get 112 (fb f z) m = True := oget_e H (k := 112) (by decide) rfl
theorem os112 (H : Hb f b) {m : mF} {v : Int32} : OX10_set 112 v (fb f z) m = True := oset_e H (k := 112) (by decide) rfl
theorem g113 (H : Hb f b) : FX10_get 113 (fb f z) (emb b n g) = g 113 := get_e H (by decide) rfl
theorem s113 (H : Hb f b) {v : Int32} : FX10_set 113 v (fb f z) (emb b n g) = (0, emb b n (upd g 113 v)) := set_e H (by decide) rfl
theorem og113 (H : Hb f b) {m : mF} : OX10_get 113 (fb f z) m = True := oget_e H (k := 113) (by decide) rfl
theorem os113 (H : Hb f b) {m : mF} {v : Int32} : OX10_set 113 v (fb f z) m = True := oset_e H (k := 113) (by decide) rfl
theorem g114 (H : Hb f b) : FX10_get 114 (fb f z) (emb b n g) = g 114 := get_e H (by decide) rfl
theorem s114 (H : Hb f b) {v : Int32} : FX10_set 114 v (fb f z) (emb b n g) = (0, emb b n (upd g 114 v)) := set_e H (by decide) rfl
theorem og114 (H : Hb f b) {m : mF} : OX10_get 114 (fb f z) m = True := oget_e H (k := 114) (by decide) rfl
theorem os114 (H : Hb f b) {m : mF} {v : Int32} : OX10_set 114 v (fb f z) m = True := oset_e H (k := 114) (by decide) rfl
theorem g115 (H : Hb f b) : FX10_get 115 (fb f z) (emb b n g) = g 115 := get_e H (by decide) rfl
theorem s115 (H : Hb f b) {v : Int32} : FX10_set 115 v (fb f z) (emb b n g) = (0, emb b n (upd g 115 v)) := set_e H (by decide) rfl
theorem og115 (H : Hb f b) {m : mF} : OX10_get 115 (fb f z) m = True := oget_e H (k := 115) (by decide) rfl
theorem os115 (H : Hb f b) {m : mF} {v : Int32} : OX10_set 115 v (fb f z) m = True := oset_e H (k := 115) (by decide) rfl
theorem g116 (H : Hb f b) : FX10_get 116 (fb f z) (emb b n g) = g 116 := get_e H (by decide) rfl
theorem s116 (H : Hb f b) {v : Int32} : FX10_set 116 v (fb f z) (emb b n g) = (0, emb b n (upd g 116 v)) := set_e H (by decide) rfl
theorem og116 (H : Hb f b) {m : mF} : OX10_get 116 (fb f z) m = True := oget_e H (k := 116) (by decide) rfl
theorem os116 (H : Hb f b) {m : mF} {v : Int32} : OX10_set 116 v (fb f z) m = True := oset_e H (k := 116) (by decide) rfl
theorem g117 (H : Hb f b) : FX10_get 117 (fb f z) (emb b n g) = g 117 := get_e H (by decide) rfl
theorem s117 (H : Hb f b) {v : Int32} : FX10_set 117 v (fb f z) (emb b n g) = (0, emb b n (upd g 117 v)) := set_e H (by decide) rfl
theorem og117 (H : Hb f b) {m : mF} : OX10_get 117 (fb f z) m = True := oget_e H (k := 117) (by decide) rfl
theorem os117 (H : Hb f b) {m : mF} {v : Int32} : OX10_set 117 v (fb f z) m = True := oset_e H (k := 117) (by decide) rfl
/-- places -/
def isPl (x : Int32) : Prop := ∃ k : Nat, k < 96 ∧ x = nI k
theorem pl_of {x : Int32} (h1 : ¬ x < 0) (h2 : ¬ (96 : Int32) ≤ x) : isPl x := by
  obtain ⟨k, hk, e⟩ := nI_of h1
  refine ⟨k, ?_, e⟩
  rcases Nat.lt_or_ge k 96 with q | q
  · exact q
  · exact absurd (by rw [e]; exact nI_le (a := 96) q hk) h2
theorem isPlace9_1 {x : Int32} (h : isPl x) : FX9_isPlace x = 1 := by
  obtain ⟨k, hk, rfl⟩ := h
  unfold FX9_isPlace
  rw [if_neg (nI_pos (by omega)), if_neg (show ¬ (96 : Int32) ≤ nI k from nI_ge (a := k) (b := 96) hk (by decide))]
theorem isPlace9_0 {x : Int32} (h : ¬ isPl x) : FX9_isPlace x = 0 := by
  unfold FX9_isPlace
  by_cases h1 : x < 0
  · rw [if_pos h1]
  · rw [if_neg h1]
    by_cases h2 : (96 : Int32) ≤ x
    · rw [if_pos h2]
    · exact absurd (pl_of h1 h2) h
theorem isPlace10_1 {x : Int32} (h : isPl x) : FX10_isPlace x = 1 := isPlace9_1 h
theorem isPlace10_0 {x : Int32} (h : ¬ isPl x) : FX10_isPlace x = 0 := isPlace9_0 h
theorem pl_vp {x : Int32} (h : isPl x) : vp_in x 96 := by
  obtain ⟨k, hk, rfl⟩ := h
  exact vp_in_nI hk (by decide)
theorem pl_cl {x : Int32} (h : isPl x) : x.toNatClampNeg < 96 ∧ x = nI x.toNatClampNeg := by
  obtain ⟨k, hk, rfl⟩ := h
  rw [nI_clamp (by omega)]
  exact ⟨hk, rfl⟩
theorem at_ok (H : Hb f b) {x : Int32} (h : isPl x) : FX10_at x (fb f 0) (emb b n g) = (g x.toNatClampNeg, fb f 0) := by
  obtain ⟨h1, h2⟩ := pl_cl h
  simp only [FX10_at, isPlace10_1 h, needs_ok (show ¬ (1 : Int32) = 0 by decide), if_neg (show ¬ (1 : Int32) = 0 by decide)]
  rw [H.ad (k := x.toNatClampNeg) (by omega) h2, emb_at (by omega)]
theorem at_no {x : Int32} (h : ¬ isPl x) : FX10_at x (fb f z) (emb b n g) = (0, fb f 1) := by
  simp only [FX10_at, isPlace10_0 h, needs_bad, if_true]
theorem at_1 (x : Int32) : (FX10_at x (fb f 1) (emb b n g)).2 = fb f 1 := by
  unfold FX10_at
  dsimp only
  rw [needs_1]
  split <;> rfl
theorem oat (H : Hb f b) {x : Int32} {m : mF} (hz : z = 0 ∨ z = 1) : OX10_at x (fb f z) m = True := by
  refine eq_true ?_
  unfold OX10_at
  dsimp only
  refine ⟨fun _ => trivial, fun h => ?_⟩
  have hp : isPl x := Classical.byContradiction fun hn => h (isPlace10_0 hn)
  obtain ⟨h1, h2⟩ := pl_cl hp
  rw [isPlace10_1 hp]
  rcases hz with rfl | rfl
  · rw [needs_ok (by decide)]; exact H.vp (z := 0) (k := x.toNatClampNeg) (by omega) h2
  · rw [needs_1]; exact H.vp (z := 1) (k := x.toNatClampNeg) (by omega) h2
theorem lay_ok (H : Hb f b) {x v : Int32} (h : isPl x) : FX10_lay x v (fb f 0) (emb b n g) = (0, fb f 0, emb b n (upd g x.toNatClampNeg v)) := by
  obtain ⟨h1, h2⟩ := pl_cl h
  simp only [FX10_lay, isPlace10_1 h, needs_ok (show ¬ (1 : Int32) = 0 by decide), if_neg (show ¬ (1 : Int32) = 0 by decide)]
  rw [H.ad (k := x.toNatClampNeg) (by omega) h2, emb_upd (by omega)]
theorem lay_no {x v : Int32} (h : ¬ isPl x) : FX10_lay x v (fb f z) (emb b n g) = (0, fb f 1, emb b n g) := by
  simp only [FX10_lay, isPlace10_0 h, needs_bad, if_true]
/-- a word laid by one that is bad already: it changes a word alone -/
theorem lay_1 (H : Hb f b) (x v : Int32) : ∃ g', FX10_lay x v (fb f 1) (emb b n g) = (0, fb f 1, emb b n g') ∧ ∀ k, 96 ≤ k → g' k = g k := by
  by_cases h : isPl x
  · obtain ⟨h1, h2⟩ := pl_cl h
    refine ⟨upd g x.toNatClampNeg v, ?_, fun k hk => pk_un (by omega)⟩
    simp only [FX10_lay, isPlace10_1 h, needs_1, if_neg (show ¬ (1 : Int32) = 0 by decide)]
    rw [H.ad (k := x.toNatClampNeg) (by omega) h2, emb_upd (by omega)]
  · exact ⟨g, lay_no h, fun _ _ => rfl⟩
theorem olay (H : Hb f b) {x v : Int32} {m : mF} (hz : z = 0 ∨ z = 1) : OX10_lay x v (fb f z) m = True := by
  refine eq_true ?_
  unfold OX10_lay
  dsimp only
  refine ⟨fun _ => trivial, fun h => ?_⟩
  have hp : isPl x := Classical.byContradiction fun hn => h (isPlace10_0 hn)
  obtain ⟨h1, h2⟩ := pl_cl hp
  rw [isPlace10_1 hp]
  rcases hz with rfl | rfl
  · rw [needs_ok (by decide)]; exact H.vp (z := 0) (k := x.toNatClampNeg) (by omega) h2
  · rw [needs_1]; exact H.vp (z := 1) (k := x.toNatClampNeg) (by omega) h2
end BLK
/-- process words -/
def isP (x : Int32) : Prop := ∃ k : Nat, 10 ≤ k ∧ k ≤ 191 ∧ x = nI k
def isWv (x : Int32) : Prop := ∃ k : Nat, 5 ≤ k ∧ k ≤ 95 ∧ x = nI k
theorem between {x : Int32} {a c : Nat} (hc : c < 2 ^ 31) (ha : a < 2 ^ 31) (h1 : ¬ x < nI a) (h2 : ¬ nI c < x) : ∃ k : Nat, a ≤ k ∧ k ≤ c ∧ x = nI k := by
  have h0 : ¬ x < 0 := fun h => h1 (Int32.lt_of_lt_of_le h (nI_pos' ha))
  obtain ⟨k, hk, rfl⟩ := nI_of h0
  refine ⟨k, ?_, ?_, rfl⟩
  · rcases Nat.lt_or_ge k a with q | q
    · exact absurd (nI_lt q ha) h1
    · exact q
  · rcases Nat.lt_or_ge c k with q | q
    · exact absurd (nI_lt q hk) h2
    · exact q
theorem isProc9_1 {x : Int32} (h : isP x) : FX9_isProcess x = 1 := by
  obtain ⟨k, h1, h2, rfl⟩ := h
  unfold FX9_isProcess
  rw [if_neg (show ¬ nI k < (10 : Int32) from nI_nlt (a := k) (b := 10) h1 (by omega)), if_neg (show ¬ (191 : Int32) < nI k from nI_nlt (a := 191) (b := k) h2 (by decide))]
theorem isProc9_0 {x : Int32} (h : ¬ isP x) : FX9_isProcess x = 0 := by
  unfold FX9_isProcess
  by_cases h1 : x < 10
  · rw [if_pos h1]
  · rw [if_neg h1]
    by_cases h2 : 191 < x
    · rw [if_pos h2]
    · exact absurd (between (a := 10) (c := 191) (by decide) (by decide) h1 h2) h
theorem isProc10_1 {x : Int32} (h : isP x) : FX10_isProcess x = 1 := isProc9_1 h
theorem isProc10_0 {x : Int32} (h : ¬ isP x) : FX10_isProcess x = 0 := isProc9_0 h
theorem isW9_1 {x : Int32} (h : isWv x) : FX9_isW x = 1 := by
  obtain ⟨k, h1, h2, rfl⟩ := h
  unfold FX9_isW
  rw [if_neg (show ¬ nI k < (5 : Int32) from nI_nlt (a := k) (b := 5) h1 (by omega)), if_neg (show ¬ (95 : Int32) < nI k from nI_nlt (a := 95) (b := k) h2 (by decide))]
theorem isW9_0 {x : Int32} (h : ¬ isWv x) : FX9_isW x = 0 := by
  unfold FX9_isW
  by_cases h1 : x < 5
  · rw [if_pos h1]
  · rw [if_neg h1]
    by_cases h2 : 95 < x
    · rw [if_pos h2]
    · exact absurd (between (a := 5) (c := 95) (by decide) (by decide) h1 h2) h
theorem isInW_1 {x : Int32} (h : isWv x) : FX10_isIn x 5 95 = 1 := isW9_1 h
theorem isInW_0 {x : Int32} (h : ¬ isWv x) : FX10_isIn x 5 95 = 0 := isW9_0 h
theorem pDiv {x : Int32} (h : isP x) : ∃ k q : Nat, 5 ≤ k ∧ k ≤ 95 ∧ (q = 0 ∨ q = 1) ∧ x = nI (2 * k + q) ∧ x / 2 = nI k ∧ x &&& 1 = nI q := by
  obtain ⟨j, h1, h2, rfl⟩ := h
  have e : ∀ j, j ≤ 191 → (nI j / 2 = nI (j / 2) ∧ nI j &&& 1 = nI (j % 2)) := by decide +kernel
  refine ⟨j / 2, j % 2, by omega, by omega, by omega, by rw [show 2 * (j / 2) + j % 2 = j by omega], (e j h2).1, (e j h2).2⟩
theorem pMk {w q : Int32} (hw : isWv w) (hq : q = 0 ∨ q = 1) : isP (2 * w + q) ∧ (2 * w + q) / 2 = w ∧ (2 * w + q) &&& 1 = q := by
  obtain ⟨k, h1, h2, rfl⟩ := hw
  have e : ∀ k, k ≤ 95 → ((2 : Int32) * nI k + 0 = nI (2 * k) ∧ (2 : Int32) * nI k + 1 = nI (2 * k + 1) ∧ nI (2 * k) / 2 = nI k ∧ nI (2 * k + 1) / 2 = nI k ∧ nI (2 * k) &&& 1 = 0 ∧ nI (2 * k + 1) &&& 1 = 1) := by decide +kernel
  obtain ⟨a1, a2, a3, a4, a5, a6⟩ := e k h2
  rcases hq with rfl | rfl
  · rw [a1]; exact ⟨⟨2 * k, by omega, by omega, rfl⟩, a3, a5⟩
  · rw [a2]; exact ⟨⟨2 * k + 1, by omega, by omega, rfl⟩, a4, a6⟩
theorem nI_sub {a c : Nat} (h : c ≤ a) : nI a - nI c = nI (a - c) := by
  have e := nI_add (a - c) c
  rw [show a - c + c = a by omega] at e
  rw [← e]
  simp
theorem wSub {w : Int32} (hw : isWv w) (c : Nat) (hc : c ≤ 5) : isPl (w - nI c) := by
  obtain ⟨k, h1, h2, rfl⟩ := hw
  exact ⟨k - c, by omega, nI_sub (by omega)⟩
theorem wPl {w : Int32} (hw : isWv w) : isPl w := by
  obtain ⟨k, h1, h2, rfl⟩ := hw
  exact ⟨k, by omega, rfl⟩
theorem wNN {w : Int32} (hw : isWv w) : ¬ w = -1 := by
  obtain ⟨k, h1, h2, rfl⟩ := hw
  intro e
  have h : nI k < 0 := by rw [e]; decide
  exact nI_pos (by omega) h
theorem pNN {w : Int32} (hw : isP w) : ¬ w = -1 := by
  obtain ⟨k, h1, h2, rfl⟩ := hw
  intro e
  have h : nI k < 0 := by rw [e]; decide
  exact nI_pos (by omega) h
theorem pW {p : Int32} (h : isP p) : isWv (p / 2) := by
  obtain ⟨k, q, h1, h2, -, -, e, -⟩ := pDiv h
  exact ⟨k, h1, h2, e⟩
theorem pQ {p : Int32} (h : isP p) : p &&& 1 = 0 ∨ p &&& 1 = 1 := by
  obtain ⟨k, q, h1, h2, hq, -, -, e⟩ := pDiv h
  rw [e]
  rcases hq with rfl | rfl
  · exact Or.inl rfl
  · exact Or.inr rfl
