/-! JOINT: a query, asked of both sides (GENERATED, wip/gen/p/99f.py) -/
section PQ
variable {B : mB} {v : mV} {w : mX} {pg sp T : Nat}
theorem P_machine (hS : Sh B pg sp) (hI : IV v w pg T) (hT : T + 2000 < 2 ^ 30) (x1 : Int32) (x2 : Int32) : PairOK 137 252 [.int x1, .int x2] (mH B v w) (T + 1800) := by
  have hp := sh_p hS
  have hp2 : pg = 22 ∨ pg = 36 := by omega
  have hB : isMod B 371 := hS.2.2.2.1.2.2.2.2.2.2.2.2.2
  obtain ⟨J, hI⟩ := hI
  obtain ⟨L, K, s, i1, i2, i3, i4, i5, i6, i7, i8, i9⟩ := id hI
  obtain ⟨a1, a2, f1, a3, a4⟩ := c_machine (x := x1) (y := x2) (f := v 371) i1.1
  exact pair_of hS (k9_machine hS x1 x2 a1) (k10_machine hB (show _ = v 371 from rfl) (show _ = v 388 from rfl) x1 x2 a2 a3) ⟨J, IJ_q hI hp2 (by omega) (fun k hk _ => mup_ne (by omega)) i2.1 i2.2 a4 (fun _ _ => rfl) ⟨rfl, rfl, rfl, rfl, rfl, rfl, rfl, rfl⟩⟩
theorem P_queue (hS : Sh B pg sp) (hI : IV v w pg T) (hT : T + 2000 < 2 ^ 30) (x1 : Int32) (x2 : Int32) (x3 : Int32) : PairOK 139 254 [.int x1, .int x2, .int x3] (mH B v w) (T + 1800) := by
  have hp := sh_p hS
  have hp2 : pg = 22 ∨ pg = 36 := by omega
  have hB : isMod B 371 := hS.2.2.2.1.2.2.2.2.2.2.2.2.2
  obtain ⟨J, hI⟩ := hI
  obtain ⟨L, K, s, i1, i2, i3, i4, i5, i6, i7, i8, i9⟩ := id hI
  obtain ⟨a1, a2, f1, a3, a4⟩ := c_queue (x := x1) (y := x2) (z := x3) (f := v 371) i1.1
  exact pair_of hS (k9_queue hS x1 x2 x3 a1) (k10_queue hB (show _ = v 371 from rfl) (show _ = v 388 from rfl) x1 x2 x3 a2 a3) ⟨J, IJ_q hI hp2 (by omega) (fun k hk _ => mup_ne (by omega)) i2.1 i2.2 a4 (fun _ _ => rfl) ⟨rfl, rfl, rfl, rfl, rfl, rfl, rfl, rfl⟩⟩
theorem P_timer (hS : Sh B pg sp) (hI : IV v w pg T) (hT : T + 2000 < 2 ^ 30) (x1 : Int32) (x2 : Int32) (x3 : Int32) : PairOK 140 255 [.int x1, .int x2, .int x3] (mH B v w) (T + 1800) := by
  have hp := sh_p hS
  have hp2 : pg = 22 ∨ pg = 36 := by omega
  have hB : isMod B 371 := hS.2.2.2.1.2.2.2.2.2.2.2.2.2
  obtain ⟨J, hI⟩ := hI
  obtain ⟨L, K, s, i1, i2, i3, i4, i5, i6, i7, i8, i9⟩ := id hI
  obtain ⟨a1, a2, f1, a3, a4⟩ := c_timer (x := x1) (y := x2) (z := x3) (f := v 371) i1.1
  exact pair_of hS (k9_timer hS x1 x2 x3 a1) (k10_timer hB (show _ = v 371 from rfl) (show _ = v 388 from rfl) x1 x2 x3 a2 a3) ⟨J, IJ_q hI hp2 (by omega) (fun k hk _ => mup_ne (by omega)) i2.1 i2.2 a4 (fun _ _ => rfl) ⟨rfl, rfl, rfl, rfl, rfl, rfl, rfl, rfl⟩⟩
theorem P_link (hS : Sh B pg sp) (hI : IV v w pg T) (hT : T + 2000 < 2 ^ 30) (x1 : Int32) (x2 : Int32) (x3 : Int32) : PairOK 141 256 [.int x1, .int x2, .int x3] (mH B v w) (T + 1800) := by
  have hp := sh_p hS
  have hp2 : pg = 22 ∨ pg = 36 := by omega
  have hB : isMod B 371 := hS.2.2.2.1.2.2.2.2.2.2.2.2.2
  obtain ⟨J, hI⟩ := hI
  obtain ⟨L, K, s, i1, i2, i3, i4, i5, i6, i7, i8, i9⟩ := id hI
  obtain ⟨a1, a2, f1, a3, a4⟩ := c_link (x := x1) (y := x2) (z := x3) (f := v 371) i1.1
  exact pair_of hS (k9_link hS x1 x2 x3 a1) (k10_link hB (show _ = v 371 from rfl) (show _ = v 388 from rfl) x1 x2 x3 a2 a3) ⟨J, IJ_q hI hp2 (by omega) (fun k hk _ => mup_ne (by omega)) i2.1 i2.2 a4 (fun _ _ => rfl) ⟨rfl, rfl, rfl, rfl, rfl, rfl, rfl, rfl⟩⟩
theorem P_meeting (hS : Sh B pg sp) (hI : IV v w pg T) (hT : T + 2000 < 2 ^ 30) (x1 : Int32) (x2 : Int32) : PairOK 142 257 [.int x1, .int x2] (mH B v w) (T + 1800) := by
  have hp := sh_p hS
  have hp2 : pg = 22 ∨ pg = 36 := by omega
  have hB : isMod B 371 := hS.2.2.2.1.2.2.2.2.2.2.2.2.2
  obtain ⟨J, hI⟩ := hI
  obtain ⟨L, K, s, i1, i2, i3, i4, i5, i6, i7, i8, i9⟩ := id hI
  obtain ⟨a1, a2, f1, a3, a4⟩ := c_meeting (x := x1) (y := x2) (f := v 371) i1.2.1 (by omega)
  exact pair_of hS (k9_meeting hS x1 x2 a1) (k10_meeting hB (show _ = v 371 from rfl) (show _ = v 388 from rfl) x1 x2 a2 a3) ⟨J, IJ_q hI hp2 (by omega) (fun k hk _ => mup_ne (by omega)) i2.1 i2.2 a4 (fun _ _ => rfl) ⟨rfl, rfl, rfl, rfl, rfl, rfl, rfl, rfl⟩⟩
theorem P_stuck (hS : Sh B pg sp) (hI : IV v w pg T) (hT : T + 2000 < 2 ^ 30) : PairOK 143 259 [] (mH B v w) (T + 1800) := by
  have hp := sh_p hS
  have hp2 : pg = 22 ∨ pg = 36 := by omega
  have hB : isMod B 371 := hS.2.2.2.1.2.2.2.2.2.2.2.2.2
  obtain ⟨J, hI⟩ := hI
  obtain ⟨L, K, s, i1, i2, i3, i4, i5, i6, i7, i8, i9⟩ := id hI
  obtain ⟨a1, a2, f1, a3, a4⟩ := c_stuck i1.1 i5.2
  exact pair_of hS (k9_stuck hS a1) (k10_stuck hB (show _ = v 371 from rfl) (show _ = v 383 from rfl) (show _ = v 388 from rfl) a2 a3) ⟨J, IJ_q hI hp2 (by omega) (fun k hk _ => mup_ne (by omega)) i2.1 i2.2 a4 (fun _ _ => rfl) ⟨rfl, rfl, rfl, rfl, rfl, rfl, rfl, rfl⟩⟩
theorem P_label (hS : Sh B pg sp) (hI : IV v w pg T) (hT : T + 2000 < 2 ^ 30) (x1 : Int32) : PairOK 129 237 [.int x1] (mH B v w) (T + 1800) := by
  have hp := sh_p hS
  have hp2 : pg = 22 ∨ pg = 36 := by omega
  have hB : isMod B 371 := hS.2.2.2.1.2.2.2.2.2.2.2.2.2
  obtain ⟨J, hI⟩ := hI
  obtain ⟨L, K, s, i1, i2, i3, i4, i5, i6, i7, i8, i9⟩ := id hI
  obtain ⟨a1, a2, a3⟩ := c_label (x := x1) (by omega) i7.2.1 i7.2.2.1 i7.2.2.2
  exact pair_of hS (k9_label hS x1 a1) (k10_label hB (show _ = v 371 from rfl) (show _ = v 382 from rfl) x1 a2 a3) ⟨J, IJ_q hI hp2 (by omega) (fun k hk _ => mup_ne (by omega)) i2.1 i2.2 FE_0 (fun _ _ => rfl) ⟨rfl, rfl, rfl, rfl, rfl, rfl, rfl, rfl⟩⟩
theorem P_count (hS : Sh B pg sp) (hI : IV v w pg T) (hT : T + 2000 < 2 ^ 30) (x1 : Int32) : PairOK 152 269 [.int x1] (mH B v w) (T + 1800) := by
  have hp := sh_p hS
  have hp2 : pg = 22 ∨ pg = 36 := by omega
  have hB : isMod B 371 := hS.2.2.2.1.2.2.2.2.2.2.2.2.2
  obtain ⟨J, hI⟩ := hI
  obtain ⟨L, K, s, i1, i2, i3, i4, i5, i6, i7, i8, i9⟩ := id hI
  obtain ⟨u, x, q1, q2, q3, q4, q5, q6, q7⟩ := id i3
  have a3 := c_count (x := x1) (prg := v pg) (f := v 371) (hist := v 102) (this := v 0) (i6.2.2.1.trans i6.2.2.2.1.symm) (i7.2.1.trans i7.2.2.1.symm) (i5.2.2.1.trans i5.2.2.2.1.symm) i1.2.2.1 i1.2.1 (q3.trans q5.symm) (i8.2.1.trans i8.2.2.1.symm)
  exact pair_of hS (k9_count hS x1) (k10_count hB (show _ = v 371 from rfl) (show _ = v 388 from rfl) x1 a3) ⟨J, IJ_q hI hp2 (by omega) (fun k hk _ => mup_ne (by omega)) i2.1 i2.2 FE_0 (fun _ _ => rfl) ⟨rfl, rfl, rfl, rfl, rfl, rfl, rfl, rfl⟩⟩
theorem P_reach (hS : Sh B pg sp) (hI : IV v w pg T) (hT : T + 2000 < 2 ^ 30) (x1 : Int32) (x2 : Int32) : PairOK 130 243 [.int x1, .int x2] (mH B v w) (T + 1800) := by
  have hp := sh_p hS
  have hp2 : pg = 22 ∨ pg = 36 := by omega
  have hB : isMod B 371 := hS.2.2.2.1.2.2.2.2.2.2.2.2.2
  obtain ⟨J, hI⟩ := hI
  obtain ⟨L, K, s, i1, i2, i3, i4, i5, i6, i7, i8, i9⟩ := id hI
  obtain ⟨a1, a2, r, t1, p1, s1, o1, f1, c1, a3, a4, a5⟩ := c_reach (x := x1) (y := x2) i6.2.1 i6.2.2.1 i6.2.2.2.1 i6.2.2.2.2 i6.1
  have hA : ∀ x, x ∈ ([(366, t1)] ++ ([(367, p1)] ++ ([(368, s1)] ++ ([(369, o1)] ++ ([])))) : List (Nat × mF)) → 366 ≤ x.1 ∧ x.1 < 371 := fun x hx => by
    simp only [List.mem_append, List.mem_singleton, List.not_mem_nil, or_false] at hx
    rcases hx with rfl | rfl | rfl | rfl <;> (dsimp only; omega)
  have l2 : ∀ x, x ∈ ([(371, f1), (395, c1)] : List (Nat × mF)) → 371 ≤ x.1 := fun x hx => by
    simp only [List.mem_cons, List.not_mem_nil, or_false] at hx
    rcases hx with rfl | rfl <;> (dsimp only; omega)
  have ha : ∀ k, k < 366 → mE (mE v ([(366, t1)] ++ ([(367, p1)] ++ ([(368, s1)] ++ ([(369, o1)] ++ ([])))))) [(371, f1), (395, c1)] k = v k := fun k hk => (mE_lo l2 (by omega)).trans (mE_out _ k (fun x hx e => by have := hA x hx; omega))
  have hh : ∀ k, 371 ≤ k → mE v ([(366, t1)] ++ ([(367, p1)] ++ ([(368, s1)] ++ ([(369, o1)] ++ ([]))))) k = v k := fun k hk => mE_hi (fun x hx => (hA x hx).2) hk
  exact pair_of hS (k9_reach hS x1 x2 a1 a3) (k10_reach hB (hh 371 (by decide)) (hh 380 (by decide)) (hh 381 (by decide)) (hh 395 (by decide)) x1 x2 a2 a4) ⟨J, IJ_q hI hp2 (by omega) (fun k hk _ => ha k hk) (by rw [ha 80 (by decide)]; exact i2.1) (by rw [ha 91 (by decide)]; exact i2.2) a5 (fun _ _ => rfl) ⟨rfl, rfl, rfl, rfl, rfl, rfl, rfl, rfl⟩⟩
theorem P_hog (hS : Sh B pg sp) (hI : IV v w pg T) (hT : T + 2000 < 2 ^ 30) (x1 : Int32) : PairOK 131 244 [.int x1] (mH B v w) (T + 1800) := by
  have hp := sh_p hS
  have hp2 : pg = 22 ∨ pg = 36 := by omega
  have hB : isMod B 371 := hS.2.2.2.1.2.2.2.2.2.2.2.2.2
  obtain ⟨J, hI⟩ := hI
  obtain ⟨L, K, s, i1, i2, i3, i4, i5, i6, i7, i8, i9⟩ := id hI
  obtain ⟨a1, a2, r, t1, p1, s1, o1, f1, c1, h1, a3, a4, a5⟩ := c_hog (y := x1) i6.2.1 i6.2.2.1 i6.2.2.2.1 i6.2.2.2.2 i6.1
  have hA : ∀ x, x ∈ ([(366, t1)] ++ ([(367, p1)] ++ ([(368, s1)] ++ ([(369, o1)] ++ ([])))) : List (Nat × mF)) → 366 ≤ x.1 ∧ x.1 < 371 := fun x hx => by
    simp only [List.mem_append, List.mem_singleton, List.not_mem_nil, or_false] at hx
    rcases hx with rfl | rfl | rfl | rfl <;> (dsimp only; omega)
  have l2 : ∀ x, x ∈ ([(371, f1), (395, c1), (396, h1)] : List (Nat × mF)) → 371 ≤ x.1 := fun x hx => by
    simp only [List.mem_cons, List.not_mem_nil, or_false] at hx
    rcases hx with rfl | rfl | rfl <;> (dsimp only; omega)
  have ha : ∀ k, k < 366 → mE (mE v ([(366, t1)] ++ ([(367, p1)] ++ ([(368, s1)] ++ ([(369, o1)] ++ ([])))))) [(371, f1), (395, c1), (396, h1)] k = v k := fun k hk => (mE_lo l2 (by omega)).trans (mE_out _ k (fun x hx e => by have := hA x hx; omega))
  have hh : ∀ k, 371 ≤ k → mE v ([(366, t1)] ++ ([(367, p1)] ++ ([(368, s1)] ++ ([(369, o1)] ++ ([]))))) k = v k := fun k hk => mE_hi (fun x hx => (hA x hx).2) hk
  exact pair_of hS (k9_hog hS x1 a1 a3) (k10_hog hB (hh 371 (by decide)) (hh 380 (by decide)) (hh 381 (by decide)) (hh 395 (by decide)) (hh 396 (by decide)) x1 a2 a4) ⟨J, IJ_q hI hp2 (by omega) (fun k hk _ => ha k hk) (by rw [ha 80 (by decide)]; exact i2.1) (by rw [ha 91 (by decide)]; exact i2.2) a5 (fun _ _ => rfl) ⟨rfl, rfl, rfl, rfl, rfl, rfl, rfl, rfl⟩⟩
theorem wrY {v : mV} {Y : Nat → mF} {r : List (Nat × mF)} (hr : ∀ x, x ∈ r → x.1 < 76 ∨ 102 ≤ x.1) : ∀ c, c < 23 → wrO (mE v (bE 76 l23 Y ++ r)) 76 c = Y c := wr_blk (fun c hc hn => absurd (l23_all c hc) hn) hr
theorem P_ahead (hS : Sh B pg sp) (hI : IV v w pg T) (hT : T + 2000 < 2 ^ 30) (x1 : Int32) (x2 : Int32) : PairOK 144 263 [.int x1, .int x2] (mH B v w) (T + 1800) := by
  have hp := sh_p hS
  have hp2 : pg = 22 ∨ pg = 36 := by omega
  have hB : isMod B 371 := hS.2.2.2.1.2.2.2.2.2.2.2.2.2
  obtain ⟨J, hI⟩ := hI
  obtain ⟨L, K, s, i1, i2, i3, i4, i5, i6, i7, i8, i9⟩ := id hI
  obtain ⟨a1, a2, r, Y, f1, n1, aa, as1, dd, a3, a4, a5, a6, a7, a8⟩ := c_ahead (x := x1) (y := x2) (X := wrO v 76) (a := v 389) (as := v 390) (d := v 394) i1 (by omega) i5 i2.1 i2.2
  have hR : ∀ x, x ∈ (([]) : List (Nat × mF)) → x.1 = 370 := fun x hx => absurd hx List.not_mem_nil
  have hA : ∀ x, x ∈ bE 76 l23 Y ++ ([]) → 76 ≤ x.1 ∧ x.1 < 371 ∧ (x.1 < 102 ∨ x.1 = 370) := fun x hx => by
    rcases List.mem_append.mp hx with q | q
    · have := bE_key l23_lt q; omega
    · have := hR x q; omega
  have l1 : ∀ x, x ∈ bE 76 l23 Y ++ ([]) → x.1 < 371 := fun x hx => (hA x hx).2.1
  have l2 : ∀ x, x ∈ ([(371, f1), (388, n1), (389, aa), (390, as1), (394, dd)] : List (Nat × mF)) → 371 ≤ x.1 := fun x hx => by
    simp only [List.mem_cons, List.not_mem_nil, or_false] at hx
    rcases hx with rfl | rfl | rfl | rfl | rfl <;> (dsimp only; omega)
  have q80 : mE (mE v (bE 76 l23 Y ++ ([]))) [(371, f1), (388, n1), (389, aa), (390, as1), (394, dd)] 80 = Y 3 := (mE_lo l2 (by decide)).trans (wrY (fun x hx => by have := hR x hx; omega) 3 (by decide))
  have q91 : mE (mE v (bE 76 l23 Y ++ ([]))) [(371, f1), (388, n1), (389, aa), (390, as1), (394, dd)] 91 = Y 13 := (mE_lo l2 (by decide)).trans (wrY (fun x hx => by have := hR x hx; omega) 13 (by decide))
  have hh : ∀ k, 371 ≤ k → mE v (bE 76 l23 Y ++ ([])) k = v k := fun k hk => mE_hi l1 hk
  have o2 : ∀ k, 371 ≤ k → k ≠ 371 → k ≠ 388 → k ≠ 389 → k ≠ 390 → k ≠ 394 → k ≠ 397 → mE (mE v (bE 76 l23 Y ++ ([]))) [(371, f1), (388, n1), (389, aa), (390, as1), (394, dd)] k = v k := fun k h0 h1 h2 h3 h4 h5 h6 => (mup_ne h1).trans ((mup_ne h2).trans ((mup_ne h3).trans ((mup_ne h4).trans ((mup_ne h5).trans (hh k h0)))))
  exact pair_of hS (k9_ahead hS x1 x2 a1 a3) (k10_ahead hB (hh 371 (by decide)) (hh 380 (by decide)) (hh 381 (by decide)) (hh 383 (by decide)) (hh 388 (by decide)) (hh 389 (by decide)) (hh 390 (by decide)) (hh 394 (by decide)) x1 x2 a2 a4) ⟨J, IJ_q hI hp2 (by omega) (fun k hk hn => (mE_lo l2 (by omega)).trans (mE_out _ k (fun x hx e => by have := hA x hx; omega))) (by rw [q80]; exact a5) (by rw [q91]; exact a6) a7 a8 ⟨o2 373 (by decide) (by decide) (by decide) (by decide) (by decide) (by decide) (by decide), o2 380 (by decide) (by decide) (by decide) (by decide) (by decide) (by decide) (by decide), o2 381 (by decide) (by decide) (by decide) (by decide) (by decide) (by decide) (by decide), o2 382 (by decide) (by decide) (by decide) (by decide) (by decide) (by decide) (by decide), o2 383 (by decide) (by decide) (by decide) (by decide) (by decide) (by decide) (by decide), o2 391 (by decide) (by decide) (by decide) (by decide) (by decide) (by decide) (by decide), o2 392 (by decide) (by decide) (by decide) (by decide) (by decide) (by decide) (by decide), o2 393 (by decide) (by decide) (by decide) (by decide) (by decide) (by decide) (by decide)⟩⟩
theorem P_share (hS : Sh B pg sp) (hI : IV v w pg T) (hT : T + 2000 < 2 ^ 30) (x1 : Int32) (x2 : Int32) (x3 : Int32) : PairOK 146 264 [.int x1, .int x2, .int x3] (mH B v w) (T + 1800) := by
  have hp := sh_p hS
  have hp2 : pg = 22 ∨ pg = 36 := by omega
  have hB : isMod B 371 := hS.2.2.2.1.2.2.2.2.2.2.2.2.2
  obtain ⟨J, hI⟩ := hI
  obtain ⟨L, K, s, i1, i2, i3, i4, i5, i6, i7, i8, i9⟩ := id hI
  obtain ⟨a1, a2, r, Y, f1, n1, aa, as1, dd, a3, a4, a5, a6, a7, a8⟩ := c_share (x := x1) (y := x2) (z := x3) (X := wrO v 76) (a := v 389) (as := v 390) (d := v 394) i1 (by omega) i5 i2.1 i2.2
  have hR : ∀ x, x ∈ (([]) : List (Nat × mF)) → x.1 = 370 := fun x hx => absurd hx List.not_mem_nil
  have hA : ∀ x, x ∈ bE 76 l23 Y ++ ([]) → 76 ≤ x.1 ∧ x.1 < 371 ∧ (x.1 < 102 ∨ x.1 = 370) := fun x hx => by
    rcases List.mem_append.mp hx with q | q
    · have := bE_key l23_lt q; omega
    · have := hR x q; omega
  have l1 : ∀ x, x ∈ bE 76 l23 Y ++ ([]) → x.1 < 371 := fun x hx => (hA x hx).2.1
  have l2 : ∀ x, x ∈ ([(371, f1), (388, n1), (389, aa), (390, as1), (394, dd)] : List (Nat × mF)) → 371 ≤ x.1 := fun x hx => by
    simp only [List.mem_cons, List.not_mem_nil, or_false] at hx
    rcases hx with rfl | rfl | rfl | rfl | rfl <;> (dsimp only; omega)
  have q80 : mE (mE v (bE 76 l23 Y ++ ([]))) [(371, f1), (388, n1), (389, aa), (390, as1), (394, dd)] 80 = Y 3 := (mE_lo l2 (by decide)).trans (wrY (fun x hx => by have := hR x hx; omega) 3 (by decide))
  have q91 : mE (mE v (bE 76 l23 Y ++ ([]))) [(371, f1), (388, n1), (389, aa), (390, as1), (394, dd)] 91 = Y 13 := (mE_lo l2 (by decide)).trans (wrY (fun x hx => by have := hR x hx; omega) 13 (by decide))
  have hh : ∀ k, 371 ≤ k → mE v (bE 76 l23 Y ++ ([])) k = v k := fun k hk => mE_hi l1 hk
  have o2 : ∀ k, 371 ≤ k → k ≠ 371 → k ≠ 388 → k ≠ 389 → k ≠ 390 → k ≠ 394 → k ≠ 397 → mE (mE v (bE 76 l23 Y ++ ([]))) [(371, f1), (388, n1), (389, aa), (390, as1), (394, dd)] k = v k := fun k h0 h1 h2 h3 h4 h5 h6 => (mup_ne h1).trans ((mup_ne h2).trans ((mup_ne h3).trans ((mup_ne h4).trans ((mup_ne h5).trans (hh k h0)))))
  exact pair_of hS (k9_share hS x1 x2 x3 a1 a3) (k10_share hB (hh 371 (by decide)) (hh 380 (by decide)) (hh 381 (by decide)) (hh 383 (by decide)) (hh 388 (by decide)) (hh 389 (by decide)) (hh 390 (by decide)) (hh 394 (by decide)) x1 x2 x3 a2 a4) ⟨J, IJ_q hI hp2 (by omega) (fun k hk hn => (mE_lo l2 (by omega)).trans (mE_out _ k (fun x hx e => by have := hA x hx; omega))) (by rw [q80]; exact a5) (by rw [q91]; exact a6) a7 a8 ⟨o2 373 (by decide) (by decide) (by decide) (by decide) (by decide) (by decide) (by decide), o2 380 (by decide) (by decide) (by decide) (by decide) (by decide) (by decide) (by decide), o2 381 (by decide) (by decide) (by decide) (by decide) (by decide) (by decide) (by decide), o2 382 (by decide) (by decide) (by decide) (by decide) (by decide) (by decide) (by decide), o2 383 (by decide) (by decide) (by decide) (by decide) (by decide) (by decide) (by decide), o2 391 (by decide) (by decide) (by decide) (by decide) (by decide) (by decide) (by decide), o2 392 (by decide) (by decide) (by decide) (by decide) (by decide) (by decide) (by decide), o2 393 (by decide) (by decide) (by decide) (by decide) (by decide) (by decide) (by decide)⟩⟩
theorem P_until (hS : Sh B pg sp) (hI : IV v w pg T) (hT : T + 2000 < 2 ^ 30) (x1 : Int32) (x2 : Int32) (x3 : Int32) (x4 : Int32) : PairOK 147 265 [.int x1, .int x2, .int x3, .int x4] (mH B v w) (T + 1800) := by
  have hp := sh_p hS
  have hp2 : pg = 22 ∨ pg = 36 := by omega
  have hB : isMod B 371 := hS.2.2.2.1.2.2.2.2.2.2.2.2.2
  obtain ⟨J, hI⟩ := hI
  obtain ⟨L, K, s, i1, i2, i3, i4, i5, i6, i7, i8, i9⟩ := id hI
  obtain ⟨a1, a2, r, Y, f1, n1, aa, as1, dd, a3, a4, a5, a6, a7, a8⟩ := c_until (x := x1) (y := x2) (v := x3) (z := x4) (X := wrO v 76) (a := v 389) (as := v 390) (d := v 394) i1 (by omega) i5 i2.1 i2.2
  have hR : ∀ x, x ∈ (([]) : List (Nat × mF)) → x.1 = 370 := fun x hx => absurd hx List.not_mem_nil
  have hA : ∀ x, x ∈ bE 76 l23 Y ++ ([]) → 76 ≤ x.1 ∧ x.1 < 371 ∧ (x.1 < 102 ∨ x.1 = 370) := fun x hx => by
    rcases List.mem_append.mp hx with q | q
    · have := bE_key l23_lt q; omega
    · have := hR x q; omega
  have l1 : ∀ x, x ∈ bE 76 l23 Y ++ ([]) → x.1 < 371 := fun x hx => (hA x hx).2.1
  have l2 : ∀ x, x ∈ ([(371, f1), (388, n1), (389, aa), (390, as1), (394, dd)] : List (Nat × mF)) → 371 ≤ x.1 := fun x hx => by
    simp only [List.mem_cons, List.not_mem_nil, or_false] at hx
    rcases hx with rfl | rfl | rfl | rfl | rfl <;> (dsimp only; omega)
  have q80 : mE (mE v (bE 76 l23 Y ++ ([]))) [(371, f1), (388, n1), (389, aa), (390, as1), (394, dd)] 80 = Y 3 := (mE_lo l2 (by decide)).trans (wrY (fun x hx => by have := hR x hx; omega) 3 (by decide))
  have q91 : mE (mE v (bE 76 l23 Y ++ ([]))) [(371, f1), (388, n1), (389, aa), (390, as1), (394, dd)] 91 = Y 13 := (mE_lo l2 (by decide)).trans (wrY (fun x hx => by have := hR x hx; omega) 13 (by decide))
  have hh : ∀ k, 371 ≤ k → mE v (bE 76 l23 Y ++ ([])) k = v k := fun k hk => mE_hi l1 hk
  have o2 : ∀ k, 371 ≤ k → k ≠ 371 → k ≠ 388 → k ≠ 389 → k ≠ 390 → k ≠ 394 → k ≠ 397 → mE (mE v (bE 76 l23 Y ++ ([]))) [(371, f1), (388, n1), (389, aa), (390, as1), (394, dd)] k = v k := fun k h0 h1 h2 h3 h4 h5 h6 => (mup_ne h1).trans ((mup_ne h2).trans ((mup_ne h3).trans ((mup_ne h4).trans ((mup_ne h5).trans (hh k h0)))))
  exact pair_of hS (k9_until hS x1 x2 x3 x4 a1 a3) (k10_until hB (hh 371 (by decide)) (hh 380 (by decide)) (hh 381 (by decide)) (hh 383 (by decide)) (hh 388 (by decide)) (hh 389 (by decide)) (hh 390 (by decide)) (hh 394 (by decide)) x1 x2 x3 x4 a2 a4) ⟨J, IJ_q hI hp2 (by omega) (fun k hk hn => (mE_lo l2 (by omega)).trans (mE_out _ k (fun x hx e => by have := hA x hx; omega))) (by rw [q80]; exact a5) (by rw [q91]; exact a6) a7 a8 ⟨o2 373 (by decide) (by decide) (by decide) (by decide) (by decide) (by decide) (by decide), o2 380 (by decide) (by decide) (by decide) (by decide) (by decide) (by decide) (by decide), o2 381 (by decide) (by decide) (by decide) (by decide) (by decide) (by decide) (by decide), o2 382 (by decide) (by decide) (by decide) (by decide) (by decide) (by decide) (by decide), o2 383 (by decide) (by decide) (by decide) (by decide) (by decide) (by decide) (by decide), o2 391 (by decide) (by decide) (by decide) (by decide) (by decide) (by decide) (by decide), o2 392 (by decide) (by decide) (by decide) (by decide) (by decide) (by decide) (by decide), o2 393 (by decide) (by decide) (by decide) (by decide) (by decide) (by decide) (by decide)⟩⟩
theorem P_slices (hS : Sh B pg sp) (hI : IV v w pg T) (hT : T + 2000 < 2 ^ 30) (x1 : Int32) (x2 : Int32) (x3 : Int32) : PairOK 148 266 [.int x1, .int x2, .int x3] (mH B v w) (T + 1800) := by
  have hp := sh_p hS
  have hp2 : pg = 22 ∨ pg = 36 := by omega
  have hB : isMod B 371 := hS.2.2.2.1.2.2.2.2.2.2.2.2.2
  obtain ⟨J, hI⟩ := hI
  obtain ⟨L, K, s, i1, i2, i3, i4, i5, i6, i7, i8, i9⟩ := id hI
  obtain ⟨a1, a2, r, Y, g1, f1, n1, aa, as1, dd, gg, a3, a4, a5, a6, a7, a8⟩ := c_slices (x := x1) (y := x2) (z := x3) (X := wrO v 76) (a := v 389) (as := v 390) (d := v 394) (fnd := v 370) (fnd' := v 397) i1 (by omega) i5 i2.1 i2.2
  have hR : ∀ x, x ∈ (([(370, g1)] ++ ([])) : List (Nat × mF)) → x.1 = 370 := fun x hx => by rw [List.mem_singleton.mp hx]
  have hA : ∀ x, x ∈ bE 76 l23 Y ++ ([(370, g1)] ++ ([])) → 76 ≤ x.1 ∧ x.1 < 371 ∧ (x.1 < 102 ∨ x.1 = 370) := fun x hx => by
    rcases List.mem_append.mp hx with q | q
    · have := bE_key l23_lt q; omega
    · have := hR x q; omega
  have l1 : ∀ x, x ∈ bE 76 l23 Y ++ ([(370, g1)] ++ ([])) → x.1 < 371 := fun x hx => (hA x hx).2.1
  have l2 : ∀ x, x ∈ ([(371, f1), (388, n1), (389, aa), (390, as1), (394, dd), (397, gg)] : List (Nat × mF)) → 371 ≤ x.1 := fun x hx => by
    simp only [List.mem_cons, List.not_mem_nil, or_false] at hx
    rcases hx with rfl | rfl | rfl | rfl | rfl | rfl <;> (dsimp only; omega)
  have q80 : mE (mE v (bE 76 l23 Y ++ ([(370, g1)] ++ ([])))) [(371, f1), (388, n1), (389, aa), (390, as1), (394, dd), (397, gg)] 80 = Y 3 := (mE_lo l2 (by decide)).trans (wrY (fun x hx => by have := hR x hx; omega) 3 (by decide))
  have q91 : mE (mE v (bE 76 l23 Y ++ ([(370, g1)] ++ ([])))) [(371, f1), (388, n1), (389, aa), (390, as1), (394, dd), (397, gg)] 91 = Y 13 := (mE_lo l2 (by decide)).trans (wrY (fun x hx => by have := hR x hx; omega) 13 (by decide))
  have hh : ∀ k, 371 ≤ k → mE v (bE 76 l23 Y ++ ([(370, g1)] ++ ([]))) k = v k := fun k hk => mE_hi l1 hk
  have o2 : ∀ k, 371 ≤ k → k ≠ 371 → k ≠ 388 → k ≠ 389 → k ≠ 390 → k ≠ 394 → k ≠ 397 → mE (mE v (bE 76 l23 Y ++ ([(370, g1)] ++ ([])))) [(371, f1), (388, n1), (389, aa), (390, as1), (394, dd), (397, gg)] k = v k := fun k h0 h1 h2 h3 h4 h5 h6 => (mup_ne h1).trans ((mup_ne h2).trans ((mup_ne h3).trans ((mup_ne h4).trans ((mup_ne h5).trans ((mup_ne h6).trans (hh k h0))))))
  exact pair_of hS (k9_slices hS x1 x2 x3 a1 a3) (k10_slices hB (hh 371 (by decide)) (hh 380 (by decide)) (hh 381 (by decide)) (hh 383 (by decide)) (hh 388 (by decide)) (hh 389 (by decide)) (hh 390 (by decide)) (hh 394 (by decide)) (hh 397 (by decide)) x1 x2 x3 a2 a4) ⟨J, IJ_q hI hp2 (by omega) (fun k hk hn => (mE_lo l2 (by omega)).trans (mE_out _ k (fun x hx e => by have := hA x hx; omega))) (by rw [q80]; exact a5) (by rw [q91]; exact a6) a7 a8 ⟨o2 373 (by decide) (by decide) (by decide) (by decide) (by decide) (by decide) (by decide), o2 380 (by decide) (by decide) (by decide) (by decide) (by decide) (by decide) (by decide), o2 381 (by decide) (by decide) (by decide) (by decide) (by decide) (by decide) (by decide), o2 382 (by decide) (by decide) (by decide) (by decide) (by decide) (by decide) (by decide), o2 383 (by decide) (by decide) (by decide) (by decide) (by decide) (by decide) (by decide), o2 391 (by decide) (by decide) (by decide) (by decide) (by decide) (by decide) (by decide), o2 392 (by decide) (by decide) (by decide) (by decide) (by decide) (by decide) (by decide), o2 393 (by decide) (by decide) (by decide) (by decide) (by decide) (by decide) (by decide)⟩⟩
theorem P_feed (hS : Sh B pg sp) (hI : IV v w pg T) (hT : T + 2000 < 2 ^ 30) (x1 : Int32) (x2 : Int32) (x3 : Int32) (x4 : Int32) (x5 : Int32) : PairOK 124 165 [.int x1, .int x2, .int x3, .int x4, .int x5] (mH B v w) (T + 1800) := by
  have hp := sh_p hS
  have hp2 : pg = 22 ∨ pg = 36 := by omega
  have hB : isMod B 371 := hS.2.2.2.1.2.2.2.2.2.2.2.2.2
  obtain ⟨J, hI⟩ := hI
  obtain ⟨L, K, s, i1, i2, i3, i4, i5, i6, i7, i8, i9⟩ := id hI
  obtain ⟨a1, a2, r, s', tp', tr', a3, a4, a5, a6⟩ := c_feed (x1 := x1) (x2 := x2) (x3 := x3) (x4 := x4) (x5 := x5) i8.2.1 i8.2.2.1 i8.1 i8.2.2.2
  exact pair_of hS (k9_feed hS x1 x2 x3 x4 x5 a1 a4) (k10_feed (v := mE v ([(0, upd (v 0) 1 (nI s'))] ++ ([(1, tp')] ++ ([])))) hB (show mE v ([(0, upd (v 0) 1 (nI s'))] ++ ([(1, tp')] ++ ([]))) 371 = v 371 from rfl) (show mE v ([(0, upd (v 0) 1 (nI s'))] ++ ([(1, tp')] ++ ([]))) 373 = v 373 from rfl) x1 x2 x3 x4 x5 a2 a5) ⟨J, IJ_tape (s' := s') (v2 := mE (mE v ([(0, upd (v 0) 1 (nI s'))] ++ ([(1, tp')] ++ ([])))) [(371, upd (upd (v 371) 0 0) 4 (nI s')), (373, tr')]) hI hp2 (by omega) (fun k h0 h1 h2 h3 => (mE_out [(371, upd (upd (v 371) 0 0) 4 (nI s')), (373, tr')] k (fun x hx e => by
    simp only [List.mem_cons, List.not_mem_nil, or_false] at hx
    rcases hx with rfl | rfl <;> (dsimp only at e; omega))).trans (mE_out _ k (fun x hx e => by
    simp only [List.mem_append, List.mem_singleton, List.not_mem_nil, or_false] at hx
    rcases hx with rfl | rfl <;> (dsimp only at e; omega)))) (fun k h0 h4 => (show upd (upd (v 371) 0 0) 4 (nI s') k = v 371 k from (pk_un h4).trans (pk_un h0))) ⟨a3, (show upd (v 0) 1 (nI s') 1 = nI s' from pk_us), (show upd (upd (v 371) 0 0) 4 (nI s') 4 = nI s' from pk_us), a6⟩⟩
theorem P_end (hS : Sh B pg sp) (hI : IV v w pg T) (hT : T + 2000 < 2 ^ 30) (x1 : Int32) : PairOK 126 166 [.int x1] (mH B v w) (T + 1800) := by
  have hp := sh_p hS
  have hp2 : pg = 22 ∨ pg = 36 := by omega
  have hB : isMod B 371 := hS.2.2.2.1.2.2.2.2.2.2.2.2.2
  obtain ⟨J, hI⟩ := hI
  obtain ⟨L, K, s, i1, i2, i3, i4, i5, i6, i7, i8, i9⟩ := id hI
  obtain ⟨r, s', a3, a4, a5⟩ := c_end (x := x1) i8.2.1 i8.2.2.1 i8.1
  exact pair_of hS (k9_end hS x1 a4) (k10_end (v := mE v ([(0, upd (v 0) 1 (nI s'))] ++ ([]))) hB (show mE v ([(0, upd (v 0) 1 (nI s'))] ++ ([])) 371 = v 371 from rfl) x1 a5) ⟨J, IJ_tape (s' := s') (v2 := mE (mE v ([(0, upd (v 0) 1 (nI s'))] ++ ([]))) [(371, upd (upd (v 371) 0 0) 4 (nI s'))]) hI hp2 (by omega) (fun k h0 h1 h2 h3 => (mE_out [(371, upd (upd (v 371) 0 0) 4 (nI s'))] k (fun x hx e => by
    simp only [List.mem_cons, List.not_mem_nil, or_false] at hx
    rcases hx with rfl <;> (dsimp only at e; omega))).trans (mE_out _ k (fun x hx e => by
    simp only [List.mem_append, List.mem_singleton, List.not_mem_nil, or_false] at hx
    rcases hx with rfl <;> (dsimp only at e; omega)))) (fun k h0 h4 => (show upd (upd (v 371) 0 0) 4 (nI s') k = v 371 k from (pk_un h4).trans (pk_un h0))) ⟨a3, (show upd (v 0) 1 (nI s') 1 = nI s' from pk_us), (show upd (upd (v 371) 0 0) 4 (nI s') 4 = nI s' from pk_us), i8.2.2.2⟩⟩
end PQ
