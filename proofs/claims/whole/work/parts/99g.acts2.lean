/-! JOINT: an act, done on both sides (GENERATED, wip/gen/p/99g.py) -/
section PA
variable {B : mB} {v : mV} {w : mX} {pg sp T : Nat}
theorem P_slice (hS : Sh B pg sp) (hI : IV v w pg T) (hT : T + 2000 < 2 ^ 30) (x1 : Int32) : PairOK 132 247 [.int x1] (mH B v w) (T + 1800) := by
  have hp := sh_p hS
  have hp2 : pg = 22 ∨ pg = 36 := by omega
  have hB : isMod B 371 := hS.2.2.2.1.2.2.2.2.2.2.2.2.2
  obtain ⟨J, hI⟩ := hI
  obtain ⟨L, K, s, i1, i2, i3, i4, i5, i6, i7, i8, i9⟩ := id hI
  obtain ⟨i, hi, hx, hc⟩ := c_slice (x := x1) i3 i1
  obtain ⟨a1, a2, r, C, w0, h1, f1, n1, ac, a3, a4, a5, a6, a7⟩ := hc (wrO v (104 + 26 * i)) rfl
  have hA : ∀ x, x ∈ (bE (104 + 26 * i) l19 C ++ (bE 50 l19 (uw (wrO v 50) 0 w0) ++ ([(102, h1)] ++ ([]))) : List (Nat × mF)) → x.1 < 371 := fun x hx => by
    rcases List.mem_append.mp hx with q | q
    · have := bE_key l19_lt q; omega
    · rcases List.mem_append.mp q with q | q
      · have := bE_key l19_lt q; omega
      · have q := List.mem_singleton.mp q
        rw [q]
        dsimp only
        omega
  have hh : ∀ k, 371 ≤ k → mE v (bE (104 + 26 * i) l19 C ++ (bE 50 l19 (uw (wrO v 50) 0 w0) ++ ([(102, h1)] ++ ([])))) k = v k := fun k hk => mE_hi hA hk
  have hE : ∀ x, x ∈ ([(371, f1), (388, n1), (391, ac)] : List (Nat × mF)) → x.1 = 371 ∨ x.1 = 388 ∨ x.1 = 389 ∨ x.1 = 391 ∨ x.1 = 394 := fun x hx => by
    simp only [List.mem_cons, List.not_mem_nil, or_false] at hx
    rcases hx with rfl | rfl | rfl <;> (dsimp only; omega)
  have hD : ∀ c, c < 23 → c ∉ l19 → (uw (wrO v 50) 0 w0) c = v (50 + wk c) := fun c hc hn => uw_n (fun e => by subst e; exact hn (by decide))
  exact pair_of hS (k9_slice hS hi hx x1 a1 a3) (k10_slice (v := mE v (bE (104 + 26 * i) l19 C ++ (bE 50 l19 (uw (wrO v 50) 0 w0) ++ ([(102, h1)] ++ ([]))))) hB (hh 371 (by decide)) (hh 388 (by decide)) (hh 391 (by decide)) x1 a2 a4) ⟨J, IJ_act (v2 := mE (mE v (bE (104 + 26 * i) l19 C ++ (bE 50 l19 (uw (wrO v 50) 0 w0) ++ ([(102, h1)] ++ ([]))))) [(371, f1), (388, n1), (391, ac)]) (U := (uw (wrO v 50) 0 w0)) hI hp2 (Nat.le_add_right _ _) hi l19_lt hD (fun _ _ => rfl) hE rfl (WI_T a7 (Nat.le_add_right _ _)) (RH_T a6 (Nat.le_add_right _ _)) a5⟩
theorem P_poke (hS : Sh B pg sp) (hI : IV v w pg T) (hT : T + 2000 < 2 ^ 30) (x1 : Int32) (x2 : Int32) (x3 : Int32) : PairOK 133 249 [.int x1, .int x2, .int x3] (mH B v w) (T + 1800) := by
  have hp := sh_p hS
  have hp2 : pg = 22 ∨ pg = 36 := by omega
  have hB : isMod B 371 := hS.2.2.2.1.2.2.2.2.2.2.2.2.2
  obtain ⟨J, hI⟩ := hI
  obtain ⟨L, K, s, i1, i2, i3, i4, i5, i6, i7, i8, i9⟩ := id hI
  obtain ⟨i, hi, hx, hc⟩ := c_poke (x := x1) (y := x2) (v := x3) i3 i1
  obtain ⟨a1, a2, r, C, w6, w16, h1, f1, n1, ac, a3, a4, a5, a6, a7⟩ := hc (wrO v (104 + 26 * i)) rfl
  have hA : ∀ x, x ∈ (bE (104 + 26 * i) l19 C ++ (bE 50 l19 (uw (uw (wrO v 50) 6 w6) 16 w16) ++ ([(102, h1)] ++ ([]))) : List (Nat × mF)) → x.1 < 371 := fun x hx => by
    rcases List.mem_append.mp hx with q | q
    · have := bE_key l19_lt q; omega
    · rcases List.mem_append.mp q with q | q
      · have := bE_key l19_lt q; omega
      · have q := List.mem_singleton.mp q
        rw [q]
        dsimp only
        omega
  have hh : ∀ k, 371 ≤ k → mE v (bE (104 + 26 * i) l19 C ++ (bE 50 l19 (uw (uw (wrO v 50) 6 w6) 16 w16) ++ ([(102, h1)] ++ ([])))) k = v k := fun k hk => mE_hi hA hk
  have hE : ∀ x, x ∈ ([(371, f1), (388, n1), (391, ac)] : List (Nat × mF)) → x.1 = 371 ∨ x.1 = 388 ∨ x.1 = 389 ∨ x.1 = 391 ∨ x.1 = 394 := fun x hx => by
    simp only [List.mem_cons, List.not_mem_nil, or_false] at hx
    rcases hx with rfl | rfl | rfl <;> (dsimp only; omega)
  have hD : ∀ c, c < 23 → c ∉ l19 → (uw (uw (wrO v 50) 6 w6) 16 w16) c = v (50 + wk c) := fun c hc hn => (uw_n (fun e => by subst e; exact hn (by decide))).trans (uw_n (fun e => by subst e; exact hn (by decide)))
  exact pair_of hS (k9_poke hS hi hx x1 x2 x3 a1 a3) (k10_poke (v := mE v (bE (104 + 26 * i) l19 C ++ (bE 50 l19 (uw (uw (wrO v 50) 6 w6) 16 w16) ++ ([(102, h1)] ++ ([]))))) hB (hh 371 (by decide)) (hh 388 (by decide)) (hh 391 (by decide)) x1 x2 x3 a2 a4) ⟨J, IJ_act (v2 := mE (mE v (bE (104 + 26 * i) l19 C ++ (bE 50 l19 (uw (uw (wrO v 50) 6 w6) 16 w16) ++ ([(102, h1)] ++ ([]))))) [(371, f1), (388, n1), (391, ac)]) (U := (uw (uw (wrO v 50) 6 w6) 16 w16)) hI hp2 (Nat.le_add_right _ _) hi l19_lt hD (fun _ _ => rfl) hE rfl (WI_T a7 (Nat.le_add_right _ _)) (RH_T a6 (Nat.le_add_right _ _)) a5⟩
theorem P_start (hS : Sh B pg sp) (hI : IV v w pg T) (hT : T + 2000 < 2 ^ 30) (x1 : Int32) (x2 : Int32) (x3 : Int32) (x4 : Int32) : PairOK 134 250 [.int x1, .int x2, .int x3, .int x4] (mH B v w) (T + 1800) := by
  have hp := sh_p hS
  have hp2 : pg = 22 ∨ pg = 36 := by omega
  have hB : isMod B 371 := hS.2.2.2.1.2.2.2.2.2.2.2.2.2
  obtain ⟨J, hI⟩ := hI
  obtain ⟨L, K, s, i1, i2, i3, i4, i5, i6, i7, i8, i9⟩ := id hI
  obtain ⟨i, hi, hx, hc⟩ := c_start (x := x1) (y := x2) (z := x3) (i0 := x4) i3 i1 i5
  obtain ⟨a1, a2, r, C, w4, w6, w14, w16, h1, f1, n1, ac, a3, a4, a5, a6, a7⟩ := hc (wrO v (104 + 26 * i)) rfl
  have hA : ∀ x, x ∈ (bE (104 + 26 * i) l19 C ++ (bE 50 l19 (w4s (wrO v 50) w4 w6 w14 w16) ++ ([(102, h1)] ++ ([]))) : List (Nat × mF)) → x.1 < 371 := fun x hx => by
    rcases List.mem_append.mp hx with q | q
    · have := bE_key l19_lt q; omega
    · rcases List.mem_append.mp q with q | q
      · have := bE_key l19_lt q; omega
      · have q := List.mem_singleton.mp q
        rw [q]
        dsimp only
        omega
  have hh : ∀ k, 371 ≤ k → mE v (bE (104 + 26 * i) l19 C ++ (bE 50 l19 (w4s (wrO v 50) w4 w6 w14 w16) ++ ([(102, h1)] ++ ([])))) k = v k := fun k hk => mE_hi hA hk
  have hE : ∀ x, x ∈ ([(371, f1), (388, n1), (391, ac)] : List (Nat × mF)) → x.1 = 371 ∨ x.1 = 388 ∨ x.1 = 389 ∨ x.1 = 391 ∨ x.1 = 394 := fun x hx => by
    simp only [List.mem_cons, List.not_mem_nil, or_false] at hx
    rcases hx with rfl | rfl | rfl <;> (dsimp only; omega)
  have hD : ∀ c, c < 23 → c ∉ l19 → (w4s (wrO v 50) w4 w6 w14 w16) c = v (50 + wk c) := fun c hc hn => (uw_n (fun e => by subst e; exact hn (by decide))).trans ((uw_n (fun e => by subst e; exact hn (by decide))).trans ((uw_n (fun e => by subst e; exact hn (by decide))).trans (uw_n (fun e => by subst e; exact hn (by decide)))))
  exact pair_of hS (k9_start hS hi hx x1 x2 x3 x4 a1 a3) (k10_start (v := mE v (bE (104 + 26 * i) l19 C ++ (bE 50 l19 (w4s (wrO v 50) w4 w6 w14 w16) ++ ([(102, h1)] ++ ([]))))) hB (hh 371 (by decide)) (hh 388 (by decide)) (hh 391 (by decide)) x1 x2 x3 x4 a2 a4) ⟨J, IJ_act (v2 := mE (mE v (bE (104 + 26 * i) l19 C ++ (bE 50 l19 (w4s (wrO v 50) w4 w6 w14 w16) ++ ([(102, h1)] ++ ([]))))) [(371, f1), (388, n1), (391, ac)]) (U := (w4s (wrO v 50) w4 w6 w14 w16)) hI hp2 (Nat.le_add_right _ _) hi l19_lt hD (fun _ _ => rfl) hE rfl (WI_T a7 (Nat.le_add_right _ _)) (RH_T a6 (Nat.le_add_right _ _)) a5⟩
theorem P_tick (hS : Sh B pg sp) (hI : IV v w pg T) (hT : T + 2000 < 2 ^ 30) (x1 : Int32) : PairOK 135 251 [.int x1] (mH B v w) (T + 1800) := by
  have hp := sh_p hS
  have hp2 : pg = 22 ∨ pg = 36 := by omega
  have hB : isMod B 371 := hS.2.2.2.1.2.2.2.2.2.2.2.2.2
  obtain ⟨J, hI⟩ := hI
  obtain ⟨L, K, s, i1, i2, i3, i4, i5, i6, i7, i8, i9⟩ := id hI
  obtain ⟨i, hi, hx, hc⟩ := c_tick (a := v 389) (d := v 394) (x := x1) i3 i1 (by omega) i5
  obtain ⟨a1, a2, r, C, Y, h1, f1, n1, aa, ac, dd, a3, a4, a5, a6, a7, a8⟩ := hc (wrO v (104 + 26 * i)) rfl
  have hA : ∀ x, x ∈ (bE (104 + 26 * i) l19 C ++ (bE 50 l23 (uw Y 0 (wrO v 50 0)) ++ ([(102, h1)] ++ ([]))) : List (Nat × mF)) → x.1 < 371 := fun x hx => by
    rcases List.mem_append.mp hx with q | q
    · have := bE_key l19_lt q; omega
    · rcases List.mem_append.mp q with q | q
      · have := bE_key l23_lt q; omega
      · have q := List.mem_singleton.mp q
        rw [q]
        dsimp only
        omega
  have hh : ∀ k, 371 ≤ k → mE v (bE (104 + 26 * i) l19 C ++ (bE 50 l23 (uw Y 0 (wrO v 50 0)) ++ ([(102, h1)] ++ ([])))) k = v k := fun k hk => mE_hi hA hk
  have hE : ∀ x, x ∈ ([(371, f1), (388, n1), (389, aa), (391, ac), (394, dd)] : List (Nat × mF)) → x.1 = 371 ∨ x.1 = 388 ∨ x.1 = 389 ∨ x.1 = 391 ∨ x.1 = 394 := fun x hx => by
    simp only [List.mem_cons, List.not_mem_nil, or_false] at hx
    rcases hx with rfl | rfl | rfl | rfl | rfl <;> (dsimp only; omega)
  have hU : ∀ c, c < 23 → (uw Y 0 (wrO v 50 0)) c = Y c := fun c hc => by
    by_cases e : c = 0
    · subst e
      exact uw_s.trans a8.symm
    · exact uw_n e
  exact pair_of hS (k9_tick hS hi hx x1 a1 a3) (k10_tick (v := mE v (bE (104 + 26 * i) l19 C ++ (bE 50 l23 (uw Y 0 (wrO v 50 0)) ++ ([(102, h1)] ++ ([]))))) hB (hh 371 (by decide)) (hh 380 (by decide)) (hh 381 (by decide)) (hh 383 (by decide)) (hh 388 (by decide)) (hh 389 (by decide)) (hh 391 (by decide)) (hh 394 (by decide)) x1 a2 a4) ⟨J, IJ_act (v2 := mE (mE v (bE (104 + 26 * i) l19 C ++ (bE 50 l23 (uw Y 0 (wrO v 50 0)) ++ ([(102, h1)] ++ ([]))))) [(371, f1), (388, n1), (389, aa), (391, ac), (394, dd)]) (U := Y) hI hp2 (Nat.le_add_right _ _) hi l23_lt (fun c hc hn => absurd (l23_all c hc) hn) hU hE rfl a7 a6 a5⟩
theorem P_undo (hS : Sh B pg sp) (hI : IV v w pg T) (hT : T + 2000 < 2 ^ 30) : PairOK 136 246 [] (mH B v w) (T + 1800) := by
  have hp := sh_p hS
  have hp2 : pg = 22 ∨ pg = 36 := by omega
  have hB : isMod B 371 := hS.2.2.2.1.2.2.2.2.2.2.2.2.2
  obtain ⟨J, hI⟩ := hI
  obtain ⟨L, K, s, i1, i2, i3, i4, i5, i6, i7, i8, i9⟩ := id hI
  obtain ⟨i, hi, hx, hc⟩ := c_undo i3 i1
  obtain ⟨a1, a2, r, C, h1, f1, n1, a3, a4, a5, a6, a7, a8, a9, a10, a11⟩ := hc (wrO v (104 + 26 * i)) rfl
  have hA : ∀ x, x ∈ (bE 50 l19 C ++ ([(102, h1)] ++ ([])) : List (Nat × mF)) → x.1 < 371 := fun x hx => by
    rcases List.mem_append.mp hx with q | q
    · have := bE_key l19_lt q; omega
    · have q := List.mem_singleton.mp q
      rw [q]
      dsimp only
      omega
  have hh : ∀ k, 371 ≤ k → mE v (bE 50 l19 C ++ ([(102, h1)] ++ ([]))) k = v k := fun k hk => mE_hi hA hk
  have hE : ∀ x, x ∈ ([(371, f1), (388, n1)] : List (Nat × mF)) → x.1 = 371 ∨ x.1 = 388 := fun x hx => by
    simp only [List.mem_cons, List.not_mem_nil, or_false] at hx
    rcases hx with rfl | rfl <;> (dsimp only; omega)
  exact pair_of hS (k9_undo hS hi a1 a3) (k10_undo (v := mE v (bE 50 l19 C ++ ([(102, h1)] ++ ([])))) hB (hh 371 (by decide)) (hh 388 (by decide)) (hh 391 (by decide)) a2 a4) ⟨J, IJ_und (v2 := mE (mE v (bE 50 l19 C ++ ([(102, h1)] ++ ([])))) [(371, f1), (388, n1)]) hI hp2 (Nat.le_add_right _ _) ⟨a8, a9, a10, a11⟩ hE rfl (WI_T a7 (Nat.le_add_right _ _)) (RH_T a6 (Nat.le_add_right _ _)) a5⟩
theorem P_back (hS : Sh B pg sp) (hI : IV v w pg T) (hT : T + 2000 < 2 ^ 30) (x1 : Int32) : PairOK 151 268 [.int x1] (mH B v w) (T + 1800) := by
  have hp := sh_p hS
  have hp2 : pg = 22 ∨ pg = 36 := by omega
  have hB : isMod B 371 := hS.2.2.2.1.2.2.2.2.2.2.2.2.2
  obtain ⟨J, hI⟩ := hI
  obtain ⟨L, K, s, i1, i2, i3, i4, i5, i6, i7, i8, i9⟩ := id hI
  obtain ⟨a1, a2, r, C, h1, f1, n1, a3, a4, a5, a6, a7, a8, a9, a10, a11⟩ := c_back (x := x1) (A := wrO v 313) (B := wrO v 339) i4 i1 i3 rfl rfl
  have hA : ∀ x, x ∈ (bE 50 l19 C ++ ([(102, h1)] ++ ([])) : List (Nat × mF)) → x.1 < 371 := fun x hx => by
    rcases List.mem_append.mp hx with q | q
    · have := bE_key l19_lt q; omega
    · have q := List.mem_singleton.mp q
      rw [q]
      dsimp only
      omega
  have hh : ∀ k, 371 ≤ k → mE v (bE 50 l19 C ++ ([(102, h1)] ++ ([]))) k = v k := fun k hk => mE_hi hA hk
  have hE : ∀ x, x ∈ ([(371, f1), (388, n1)] : List (Nat × mF)) → x.1 = 371 ∨ x.1 = 388 := fun x hx => by
    simp only [List.mem_cons, List.not_mem_nil, or_false] at hx
    rcases hx with rfl | rfl <;> (dsimp only; omega)
  exact pair_of hS (k9_back hS x1 a1 a3) (k10_back (v := mE v (bE 50 l19 C ++ ([(102, h1)] ++ ([])))) hB (hh 371 (by decide)) (hh 388 (by decide)) (hh 392 (by decide)) (hh 393 (by decide)) x1 a2 a4) ⟨J, IJ_und (v2 := mE (mE v (bE 50 l19 C ++ ([(102, h1)] ++ ([])))) [(371, f1), (388, n1)]) hI hp2 (Nat.le_add_right _ _) ⟨a8, a9, a10, a11⟩ hE rfl (WI_T a7 (Nat.le_add_right _ _)) (RH_T a6 (Nat.le_add_right _ _)) a5⟩
theorem P_keep (hS : Sh B pg sp) (hI : IV v w pg T) (hT : T + 2000 < 2 ^ 30) (x1 : Int32) : PairOK 150 267 [.int x1] (mH B v w) (T + 1800) := by
  have hp := sh_p hS
  have hp2 : pg = 22 ∨ pg = 36 := by omega
  have hB : isMod B 371 := hS.2.2.2.1.2.2.2.2.2.2.2.2.2
  obtain ⟨J, hI⟩ := hI
  obtain ⟨L, K, s, i1, i2, i3, i4, i5, i6, i7, i8, i9⟩ := id hI
  obtain ⟨a1, a2, r, C, D, kq, f1, k1, q1, a3, a4, a5, a6⟩ := c_keep (x := x1) (A := wrO v 313) (B := wrO v 339) i4 i1 rfl rfl
  have hA : ∀ x, x ∈ (bE 313 l19 C ++ (bE 339 l19 D ++ ([(365, kq)] ++ ([]))) : List (Nat × mF)) → x.1 < 371 := fun x hx => by
    rcases List.mem_append.mp hx with q | q
    · have := bE_key l19_lt q; omega
    · rcases List.mem_append.mp q with q | q
      · have := bE_key l19_lt q; omega
      · have q := List.mem_singleton.mp q
        rw [q]
        dsimp only
        omega
  have hh : ∀ k, 371 ≤ k → mE v (bE 313 l19 C ++ (bE 339 l19 D ++ ([(365, kq)] ++ ([])))) k = v k := fun k hk => mE_hi hA hk
  have hE : ∀ x, x ∈ ([(371, f1), (392, k1), (393, q1)] : List (Nat × mF)) → x.1 = 371 ∨ x.1 = 392 ∨ x.1 = 393 := fun x hx => by
    simp only [List.mem_cons, List.not_mem_nil, or_false] at hx
    rcases hx with rfl | rfl | rfl <;> (dsimp only; omega)
  exact pair_of hS (k9_keep hS x1 a1 a3) (k10_keep (v := mE v (bE 313 l19 C ++ (bE 339 l19 D ++ ([(365, kq)] ++ ([]))))) hB (hh 371 (by decide)) (hh 388 (by decide)) (hh 392 (by decide)) (hh 393 (by decide)) x1 a2 a4) ⟨J, IJ_keep (v2 := mE (mE v (bE 313 l19 C ++ (bE 339 l19 D ++ ([(365, kq)] ++ ([]))))) [(371, f1), (392, k1), (393, q1)]) hI hp2 (Nat.le_add_right _ _) hE rfl (RK_T a6 (Nat.le_add_right _ _)) a5⟩
end PA
