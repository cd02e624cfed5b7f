/-! JOINT: code and word, which may refuse (GENERATED, wip/gen/p/99q.py) -/
set_option maxRecDepth 20000 in
set_option maxHeartbeats 4000000 in
theorem k9_code {B : mB} {v : mV} {w : mX} {pg sp : Nat} (hS : Sh B pg sp) (x1 : Int32) (x2 : Int32) (hO : OX9_code x1 x2 (v pg) (v (pg + 1)) (v (pg + 2))) : CQ 9 128 [.ref 0, .int x1, .int x2] (mH B v w) (fun q τ => q = some (FX9_code x1 x2 (v pg) (v (pg + 1)) (v (pg + 2))) ∧ τ = mH B (mE v ([])) w) := by
  have hp := sh_p hS
  have e0 : mE v ([(pg, v pg)] ++ ([(pg + 1, v (pg + 1))] ++ ([(pg + 2, v (pg + 2))] ++ ([])))) = v := ((mE_cg ((mE_cg ((mE_cg rfl ([(pg + 2, v (pg + 2))])).trans (mE_skp rfl (fun x hx => absurd hx List.not_mem_nil))) ([(pg + 1, v (pg + 1))])).trans (mE_skp rfl (fun x hx => absurd hx List.not_mem_nil))) ([(pg, v pg)])).trans (mE_skp rfl (fun x hx => absurd hx List.not_mem_nil)))
  have e1 : mE v ([(pg, v pg)] ++ ([(pg + 1, v (pg + 1))] ++ ([(pg + 2, v (pg + 2))] ++ ([])))) = mE v ([]) := ((mE_cg ((mE_cg ((mE_cg rfl ([(pg + 2, v (pg + 2))])).trans (mE_skp rfl (fun x hx => absurd hx List.not_mem_nil))) ([(pg + 1, v (pg + 1))])).trans (mE_skp rfl (fun x hx => absurd hx List.not_mem_nil))) ([(pg, v pg)])).trans (mE_skp rfl (fun x hx => absurd hx List.not_mem_nil)))
  have h : CQ 9 128 [.ref 0, .int x1, .int x2] (mH B (mE v ([(pg, v pg)] ++ ([(pg + 1, v (pg + 1))] ++ ([(pg + 2, v (pg + 2))] ++ ([]))))) w) (fun q τ => q = some (FX9_code x1 x2 (v pg) (v (pg + 1)) (v (pg + 2))) ∧ τ = mH B (mE v ([])) w) := tX9_code (d := 8) hS.2.1.1 hS.2.2.2.1.2.2.2.1 hS.2.2.1.2.2.2.2.1 (by omega) (sh_G hS) hS.2.2.1.2.2.1 (by omega) (by omega) x1 x2 (v pg) (v (pg + 1)) (v (pg + 2)) hO ⟨rfl, congrArg (fun t => mH B t w) e1⟩
  rw [e0] at h
  exact h
set_option maxRecDepth 20000 in
set_option maxHeartbeats 4000000 in
theorem k9_word {B : mB} {v : mV} {w : mX} {pg sp : Nat} (hS : Sh B pg sp) (x1 : Int32) (x2 : Int32) (hO : OX9_word x1 x2 (wrO v 50 6) (wrO v 50 16)) : CQ 9 138 [.ref 0, .int x1, .int x2] (mH B v w) (fun q τ => q = some (FX9_word x1 x2 (wrO v 50 6) (wrO v 50 16)) ∧ τ = mH B (mE v ([])) w) := by
  have hp := sh_p hS
  have e0 : mE v (bE 50 [6, 16] (wrO v 50) ++ ([])) = v := ((mE_cg rfl (bE 50 [6, 16] (wrO v 50))).trans (mE_idb [6, 16] (by decide) (fun x hx => absurd hx List.not_mem_nil)))
  have e1 : mE v (bE 50 [6, 16] (wrO v 50) ++ ([])) = mE v ([]) := ((mE_cg rfl (bE 50 [6, 16] (wrO v 50))).trans (mE_idb [6, 16] (by decide) (fun x hx => absurd hx List.not_mem_nil)))
  have h : CQ 9 138 [.ref 0, .int x1, .int x2] (mH B (mE v (bE 50 [6, 16] (wrO v 50) ++ ([]))) w) (fun q τ => q = some (FX9_word x1 x2 (wrO v 50 6) (wrO v 50 16)) ∧ τ = mH B (mE v ([])) w) := tX9_word (d := 7) hS.2.1.1 hS.2.2.2.1.2.2.2.1 hS.2.2.1.2.2.2.2.1 (by omega) x1 x2 (wrO v 50 6) (wrO v 50 16) hO ⟨rfl, congrArg (fun t => mH B t w) e1⟩
  rw [e0] at h
  exact h
theorem k10_thrown {B : mB} {v : mV} {w : mX} (hB : isMod B 371) : CQ 10 161 [.ref 371] (mH B v w) (fun q τ => q = some (v 371 0) ∧ τ = mH B v w) := by
  have e0 : mE v [(371, v 371)] = v := mE_id _ (List.forall_mem_cons.mpr ⟨rfl, fun _ h => absurd h List.not_mem_nil⟩)
  have h : CQ 10 161 [.ref 371] (mH B (mE v [(371, v 371)]) w) (fun q τ => q = some (v 371 0) ∧ τ = mH B v w) := tX10_thrown (d := 9) (r := 371) hB (v 371) ⟨rfl, congrArg (fun t => mH B t w) e0⟩
  rw [e0] at h
  exact h
theorem IJ_w {J pg T : Nat} {v : mV} {w w' : mX} (h : IJ J v w pg T) (e : w' 372 = w 372) : IJ J v w' pg T := by
  obtain ⟨L, K, s, i1, i2, i3, i4, i5, i6, i7, i8, i9⟩ := h
  exact ⟨L, K, s, i1, i2, i3, i4, i5, i6, i7, i8, by rw [e]; exact i9⟩
/-- a call that may refuse: both answer the same, or both refuse -/
def RefOK (j9 j10 : Nat) (x y : Int32) (σ : mMH) (T : Nat) : Prop := (∃ (a : Int32) (τ : mMH), mCall 9 j9 [.ref 0, .int x, .int y] σ (some a) σ ∧ mCall 10 j10 [.ref 371, .int x, .int y] (mPw σ 398 0 a.toInt64) (some a) τ ∧ mCall 10 161 [.ref 371] τ (some 0) τ ∧ τ.1 = σ.1 ∧ τ.2.1 = σ.2.1 ∧ τ.2.2.2.2 398 0 = a.toInt64 ∧ JInv τ T) ∨ ((∀ (l : Launch) (D : va_G) (ta : Nat → ClassId) (ad : Nat → Nat) (sz : Nat), l.stackTraces = false → vx_Met l (mt j9).2.1 (mWS j9) (mRm 9 1 6) (mPx D ta ad sz [.ref 0, .int x, .int y] σ) mQn (mXT D ta ad sz σ) 1 6 (va_A (mWs ta ad σ) sz)) ∧ ∃ (b : Int32) (τ : mMH), mCall 10 j10 [.ref 371, .int x, .int y] σ (some b) τ ∧ mCall 10 161 [.ref 371] τ (some 1) τ ∧ τ.1 = σ.1 ∧ τ.2.1 = σ.2.1 ∧ JInv τ T)
section RF
variable {B : mB} {v : mV} {w : mX} {pg sp T : Nat}
theorem ref_ok {j9 j10 : Nat} {x y a : Int32} {f1 : mF} (hS : Sh B pg sp) (hB : isMod B 371) (hp : pg = 22 ∨ pg = 36) {J : Nat} (hI : IJ J v w pg T) (h9 : CQ 9 j9 [.ref 0, .int x, .int y] (mH B v w) (fun q τ => q = some a ∧ τ = mH B v w)) (h10 : ∀ w1 : mX, CQ 10 j10 [.ref 371, .int x, .int y] (mH B v w1) (fun q τ => q = some a ∧ τ = mH B (mE v [(371, f1)]) w1)) (hf : FE (v 371) f1) (h0 : f1 0 = 0) : RefOK j9 j10 x y (mH B v w) (T + 1800) := by
  have hl : B.2.1.length = 399 := hS.1
  have hz : B.2.1.length ≤ 1000000 := by omega
  obtain ⟨q, τ, a1, -, -, rfl, rfl⟩ := h9 hz
  obtain ⟨q2, τ2, b1, -, -, rfl, rfl⟩ := h10 (va_up w 398 (vp_updL (w 398) 0 a.toInt64)) hz
  obtain ⟨q3, τ3, c1, -, -, c2, rfl⟩ := k10_thrown (v := mE v [(371, f1)]) (w := va_up w 398 (vp_updL (w 398) 0 a.toInt64)) hB hz
  have e0 : q3 = some 0 := c2.trans (congrArg some h0)
  subst e0
  refine Or.inl ⟨a, _, a1, b1, c1, rfl, rfl, ?_, pg, sp, hS, J, ?_⟩
  · show va_up w 398 (vp_updL (w 398) 0 a.toInt64) 398 0 = a.toInt64
    rw [mup_eq]
    exact if_pos rfl
  · have e372 : va_up w 398 (vp_updL (w 398) 0 a.toInt64) 372 = w 372 := mup_ne (by decide)
    exact IJ_w (IJ_q hI hp (Nat.le_add_right _ _) (fun k hk _ => mup_ne (by omega)) (by obtain ⟨L, K, s, -, i2, -⟩ := hI; exact i2.1) (by obtain ⟨L, K, s, -, i2, -⟩ := hI; exact i2.2) hf (fun _ _ => rfl) ⟨rfl, rfl, rfl, rfl, rfl, rfl, rfl, rfl⟩) e372
theorem ref_no {j9 j10 : Nat} {x y b : Int32} {f1 : mF} (hS : Sh B pg sp) (hB : isMod B 371) (hp : pg = 22 ∨ pg = 36) {J : Nat} (hI : IJ J v w pg T) (h9 : ∀ (l : Launch) (D : va_G) (ta : Nat → ClassId) (ad : Nat → Nat) (sz : Nat), l.stackTraces = false → vx_Met l (mt j9).2.1 (mWS j9) (mRm 9 1 6) (mPx D ta ad sz [.ref 0, .int x, .int y] (mH B v w)) mQn (mXT D ta ad sz (mH B v w)) 1 6 (va_A (mWs ta ad (mH B v w)) sz)) (h10 : CQ 10 j10 [.ref 371, .int x, .int y] (mH B v w) (fun q τ => q = some b ∧ τ = mH B (mE v [(371, f1)]) w)) (hf : FE (v 371) f1) (h0 : f1 0 = 1) : RefOK j9 j10 x y (mH B v w) (T + 1800) := by
  have hl : B.2.1.length = 399 := hS.1
  have hz : B.2.1.length ≤ 1000000 := by omega
  obtain ⟨q2, τ2, b1, -, -, rfl, rfl⟩ := h10 hz
  obtain ⟨q3, τ3, c1, -, -, c2, rfl⟩ := k10_thrown (v := mE v [(371, f1)]) (w := w) hB hz
  have e0 : q3 = some 1 := c2.trans (congrArg some h0)
  subst e0
  refine Or.inr ⟨h9, b, _, b1, c1, rfl, rfl, pg, sp, hS, J, ?_⟩
  exact IJ_q hI hp (Nat.le_add_right _ _) (fun k hk _ => mup_ne (by omega)) (by obtain ⟨L, K, s, -, i2, -⟩ := hI; exact i2.1) (by obtain ⟨L, K, s, -, i2, -⟩ := hI; exact i2.2) hf (fun _ _ => rfl) ⟨rfl, rfl, rfl, rfl, rfl, rfl, rfl, rfl⟩
theorem P_code (hS : Sh B pg sp) (hI : IV v w pg T) (x1 x2 : Int32) : RefOK 128 236 x1 x2 (mH B v w) (T + 1800) := by
  have hp := sh_p hS
  have hp2 : pg = 22 ∨ pg = 36 := by omega
  have hB : isMod B 371 := hS.2.2.2.1.2.2.2.2.2.2.2.2.2
  obtain ⟨J, hI⟩ := hI
  obtain ⟨L, K, s, i1, i2, i3, i4, i5, i6, i7, i8, i9⟩ := id hI
  obtain ⟨o10, hc⟩ := c_code (x := x1) (y := x2) i6.2.1 i6.2.2.1 i6.2.2.2.1 i6.2.2.2.2
  rcases hc with ⟨o9, e, -⟩ | ⟨e, hr⟩
  · exact ref_ok hS hB hp2 hI (k9_code hS x1 x2 o9) (fun w1 => k10_code (v := v) hB rfl rfl rfl x1 x2 o10 e) FE_0 pk_us
  · exact ref_no hS hB hp2 hI (fun l D ta ad sz hl => x_code hl hS.2.1.1 hS.2.2.1.2.2.1 (sh_G hS).1 hr) (k10_code (v := v) hB rfl rfl rfl x1 x2 o10 e) FE_0 pk_us
theorem P_word (hS : Sh B pg sp) (hI : IV v w pg T) (x1 x2 : Int32) : RefOK 138 253 x1 x2 (mH B v w) (T + 1800) := by
  have hp := sh_p hS
  have hp2 : pg = 22 ∨ pg = 36 := by omega
  have hB : isMod B 371 := hS.2.2.2.1.2.2.2.2.2.2.2.2.2
  have hl : B.2.1.length = 399 := hS.1
  obtain ⟨J, hI⟩ := hI
  obtain ⟨L, K, s, i1, i2, i3, i4, i5, i6, i7, i8, i9⟩ := id hI
  obtain ⟨o10, hc⟩ := c_word (x := x1) (y := x2) (f := v 371) i1.1
  rcases hc with ⟨f1, o9, e, hf, h0, -⟩ | ⟨f1, e, hf, h0, hr⟩
  · exact ref_ok hS hB hp2 hI (k9_word hS x1 x2 o9) (fun w1 => k10_word (v := v) hB rfl rfl x1 x2 o10 e) hf h0
  · exact ref_no hS hB hp2 hI (fun l D ta ad sz hl9 => x_word hl9 (by show B.2.1.length ≤ 1000000; omega) hr) (k10_word (v := v) hB rfl rfl x1 x2 o10 e) hf h0
end RF
