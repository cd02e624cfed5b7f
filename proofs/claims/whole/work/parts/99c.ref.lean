/-! JOINT: one call of the reference, over one heap's rows (GENERATED, wip/gen/p/99c.py) -/
set_option maxRecDepth 20000 in
set_option maxHeartbeats 4000000 in
theorem k10_machine {B : mB} {v : mV} {w : mX} (hB : isMod B 371) {g0 g17 : mF} (r0 : v 371 = g0) (r17 : v 388 = g17) (x1 : Int32) (x2 : Int32) {r : Int32} {f1 : mF} (hO : OX10_machine x1 x2 g0 g17) (e : FX10_machine x1 x2 g0 g17 = (r, f1)) : CQ 10 252 [.ref 371, .int x1, .int x2] (mH B v w) (fun q τ => q = some r ∧ τ = mH B (mE v [(371, f1)]) w) := by
  have e0 : mE v [(371, g0), (388, g17)] = v := mE_id _ (List.forall_mem_cons.mpr ⟨r0, (List.forall_mem_cons.mpr ⟨r17, (fun _ h => absurd h List.not_mem_nil)⟩)⟩)
  have e1 : mE v [(371, f1), (388, g17)] = mE v [(371, f1)] := (mE_cg ((mE_cg rfl [(388, g17)]).trans (mE_skp r17 (fun x hx => absurd hx List.not_mem_nil))) [(371, f1)])
  have h : CQ 10 252 [.ref 371, .int x1, .int x2] (mH B (mE v [(371, g0), (388, g17)]) w) (fun q τ => q = some r ∧ τ = mH B (mE v [(371, f1)]) w) := tX10_machine (d := 7) (r := 371) hB x1 x2 g0 g17 hO (by rw [e]; exact ⟨rfl, congrArg (fun t => mH B t w) e1⟩)
  rw [e0] at h
  exact h
set_option maxRecDepth 20000 in
set_option maxHeartbeats 4000000 in
theorem k10_queue {B : mB} {v : mV} {w : mX} (hB : isMod B 371) {g0 g17 : mF} (r0 : v 371 = g0) (r17 : v 388 = g17) (x1 : Int32) (x2 : Int32) (x3 : Int32) {r : Int32} {f1 : mF} (hO : OX10_queue x1 x2 x3 g0 g17) (e : FX10_queue x1 x2 x3 g0 g17 = (r, f1)) : CQ 10 254 [.ref 371, .int x1, .int x2, .int x3] (mH B v w) (fun q τ => q = some r ∧ τ = mH B (mE v [(371, f1)]) w) := by
  have e0 : mE v [(371, g0), (388, g17)] = v := mE_id _ (List.forall_mem_cons.mpr ⟨r0, (List.forall_mem_cons.mpr ⟨r17, (fun _ h => absurd h List.not_mem_nil)⟩)⟩)
  have e1 : mE v [(371, f1), (388, g17)] = mE v [(371, f1)] := (mE_cg ((mE_cg rfl [(388, g17)]).trans (mE_skp r17 (fun x hx => absurd hx List.not_mem_nil))) [(371, f1)])
  have h : CQ 10 254 [.ref 371, .int x1, .int x2, .int x3] (mH B (mE v [(371, g0), (388, g17)]) w) (fun q τ => q = some r ∧ τ = mH B (mE v [(371, f1)]) w) := tX10_queue (d := 7) (r := 371) hB x1 x2 x3 g0 g17 hO (by rw [e]; exact ⟨rfl, congrArg (fun t => mH B t w) e1⟩)
  rw [e0] at h
  exact h
set_option maxRecDepth 20000 in
set_option maxHeartbeats 4000000 in
theorem k10_timer {B : mB} {v : mV} {w : mX} (hB : isMod B 371) {g0 g17 : mF} (r0 : v 371 = g0) (r17 : v 388 = g17) (x1 : Int32) (x2 : Int32) (x3 : Int32) {r : Int32} {f1 : mF} (hO : OX10_timer x1 x2 x3 g0 g17) (e : FX10_timer x1 x2 x3 g0 g17 = (r, f1)) : CQ 10 255 [.ref 371, .int x1, .int x2, .int x3] (mH B v w) (fun q τ => q = some r ∧ τ = mH B (mE v [(371, f1)]) w) := by
  have e0 : mE v [(371, g0), (388, g17)] = v := mE_id _ (List.forall_mem_cons.mpr ⟨r0, (List.forall_mem_cons.mpr ⟨r17, (fun _ h => absurd h List.not_mem_nil)⟩)⟩)
  have e1 : mE v [(371, f1), (388, g17)] = mE v [(371, f1)] := (mE_cg ((mE_cg rfl [(388, g17)]).trans (mE_skp r17 (fun x hx => absurd hx List.not_mem_nil))) [(371, f1)])
  have h : CQ 10 255 [.ref 371, .int x1, .int x2, .int x3] (mH B (mE v [(371, g0), (388, g17)]) w) (fun q τ => q = some r ∧ τ = mH B (mE v [(371, f1)]) w) := tX10_timer (d := 7) (r := 371) hB x1 x2 x3 g0 g17 hO (by rw [e]; exact ⟨rfl, congrArg (fun t => mH B t w) e1⟩)
  rw [e0] at h
  exact h
set_option maxRecDepth 20000 in
set_option maxHeartbeats 4000000 in
theorem k10_link {B : mB} {v : mV} {w : mX} (hB : isMod B 371) {g0 g17 : mF} (r0 : v 371 = g0) (r17 : v 388 = g17) (x1 : Int32) (x2 : Int32) (x3 : Int32) {r : Int32} {f1 : mF} (hO : OX10_link x1 x2 x3 g0 g17) (e : FX10_link x1 x2 x3 g0 g17 = (r, f1)) : CQ 10 256 [.ref 371, .int x1, .int x2, .int x3] (mH B v w) (fun q τ => q = some r ∧ τ = mH B (mE v [(371, f1)]) w) := by
  have e0 : mE v [(371, g0), (388, g17)] = v := mE_id _ (List.forall_mem_cons.mpr ⟨r0, (List.forall_mem_cons.mpr ⟨r17, (fun _ h => absurd h List.not_mem_nil)⟩)⟩)
  have e1 : mE v [(371, f1), (388, g17)] = mE v [(371, f1)] := (mE_cg ((mE_cg rfl [(388, g17)]).trans (mE_skp r17 (fun x hx => absurd hx List.not_mem_nil))) [(371, f1)])
  have h : CQ 10 256 [.ref 371, .int x1, .int x2, .int x3] (mH B (mE v [(371, g0), (388, g17)]) w) (fun q τ => q = some r ∧ τ = mH B (mE v [(371, f1)]) w) := tX10_link (d := 7) (r := 371) hB x1 x2 x3 g0 g17 hO (by rw [e]; exact ⟨rfl, congrArg (fun t => mH B t w) e1⟩)
  rw [e0] at h
  exact h
set_option maxRecDepth 20000 in
set_option maxHeartbeats 4000000 in
theorem k10_meeting {B : mB} {v : mV} {w : mX} (hB : isMod B 371) {g0 g17 : mF} (r0 : v 371 = g0) (r17 : v 388 = g17) (x1 : Int32) (x2 : Int32) {r : Int32} {f1 : mF} (hO : OX10_meeting x1 x2 g0 g17) (e : FX10_meeting x1 x2 g0 g17 = (r, f1)) : CQ 10 257 [.ref 371, .int x1, .int x2] (mH B v w) (fun q τ => q = some r ∧ τ = mH B (mE v [(371, f1)]) w) := by
  have e0 : mE v [(371, g0), (388, g17)] = v := mE_id _ (List.forall_mem_cons.mpr ⟨r0, (List.forall_mem_cons.mpr ⟨r17, (fun _ h => absurd h List.not_mem_nil)⟩)⟩)
  have e1 : mE v [(371, f1), (388, g17)] = mE v [(371, f1)] := (mE_cg ((mE_cg rfl [(388, g17)]).trans (mE_skp r17 (fun x hx => absurd hx List.not_mem_nil))) [(371, f1)])
  have h : CQ 10 257 [.ref 371, .int x1, .int x2] (mH B (mE v [(371, g0), (388, g17)]) w) (fun q τ => q = some r ∧ τ = mH B (mE v [(371, f1)]) w) := tX10_meeting (d := 8) (r := 371) hB x1 x2 g0 g17 hO (by rw [e]; exact ⟨rfl, congrArg (fun t => mH B t w) e1⟩)
  rw [e0] at h
  exact h
set_option maxRecDepth 20000 in
set_option maxHeartbeats 4000000 in
theorem k10_stuck {B : mB} {v : mV} {w : mX} (hB : isMod B 371) {g0 g12 g17 : mF} (r0 : v 371 = g0) (r12 : v 383 = g12) (r17 : v 388 = g17) {r : Int32} {f1 : mF} (hO : OX10_stuck g0 g12 g17) (e : FX10_stuck g0 g12 g17 = (r, f1)) : CQ 10 259 [.ref 371] (mH B v w) (fun q τ => q = some r ∧ τ = mH B (mE v [(371, f1)]) w) := by
  have e0 : mE v [(371, g0), (383, g12), (388, g17)] = v := mE_id _ (List.forall_mem_cons.mpr ⟨r0, (List.forall_mem_cons.mpr ⟨r12, (List.forall_mem_cons.mpr ⟨r17, (fun _ h => absurd h List.not_mem_nil)⟩)⟩)⟩)
  have e1 : mE v [(371, f1), (383, g12), (388, g17)] = mE v [(371, f1)] := (mE_cg ((mE_cg ((mE_cg rfl [(388, g17)]).trans (mE_skp r17 (fun x hx => absurd hx List.not_mem_nil))) [(383, g12)]).trans (mE_skp r12 (fun x hx => absurd hx List.not_mem_nil))) [(371, f1)])
  have h : CQ 10 259 [.ref 371] (mH B (mE v [(371, g0), (383, g12), (388, g17)]) w) (fun q τ => q = some r ∧ τ = mH B (mE v [(371, f1)]) w) := tX10_stuck (d := 6) (r := 371) hB g0 g12 g17 hO (by rw [e]; exact ⟨rfl, congrArg (fun t => mH B t w) e1⟩)
  rw [e0] at h
  exact h
set_option maxRecDepth 20000 in
set_option maxHeartbeats 4000000 in
theorem k10_label {B : mB} {v : mV} {w : mX} (hB : isMod B 371) {g0 g11 : mF} (r0 : v 371 = g0) (r11 : v 382 = g11) (x1 : Int32) {r : Int32} {f1 : mF} (hO : OX10_label x1 g0 g11) (e : FX10_label x1 g0 g11 = (r, f1)) : CQ 10 237 [.ref 371, .int x1] (mH B v w) (fun q τ => q = some r ∧ τ = mH B (mE v [(371, f1)]) w) := by
  have e0 : mE v [(371, g0), (382, g11)] = v := mE_id _ (List.forall_mem_cons.mpr ⟨r0, (List.forall_mem_cons.mpr ⟨r11, (fun _ h => absurd h List.not_mem_nil)⟩)⟩)
  have e1 : mE v [(371, f1), (382, g11)] = mE v [(371, f1)] := (mE_cg ((mE_cg rfl [(382, g11)]).trans (mE_skp r11 (fun x hx => absurd hx List.not_mem_nil))) [(371, f1)])
  have h : CQ 10 237 [.ref 371, .int x1] (mH B (mE v [(371, g0), (382, g11)]) w) (fun q τ => q = some r ∧ τ = mH B (mE v [(371, f1)]) w) := tX10_label (d := 8) (r := 371) hB x1 g0 g11 hO (by rw [e]; exact ⟨rfl, congrArg (fun t => mH B t w) e1⟩)
  rw [e0] at h
  exact h
set_option maxRecDepth 20000 in
set_option maxHeartbeats 4000000 in
theorem k10_count {B : mB} {v : mV} {w : mX} (hB : isMod B 371) {g0 g17 : mF} (r0 : v 371 = g0) (r17 : v 388 = g17) (x1 : Int32) {r : Int32} {f1 : mF} (e : FX10_count x1 g0 g17 = (r, f1)) : CQ 10 269 [.ref 371, .int x1] (mH B v w) (fun q τ => q = some r ∧ τ = mH B (mE v [(371, f1)]) w) := by
  have e0 : mE v [(371, g0), (388, g17)] = v := mE_id _ (List.forall_mem_cons.mpr ⟨r0, (List.forall_mem_cons.mpr ⟨r17, (fun _ h => absurd h List.not_mem_nil)⟩)⟩)
  have e1 : mE v [(371, f1), (388, g17)] = mE v [(371, f1)] := (mE_cg ((mE_cg rfl [(388, g17)]).trans (mE_skp r17 (fun x hx => absurd hx List.not_mem_nil))) [(371, f1)])
  have h : CQ 10 269 [.ref 371, .int x1] (mH B (mE v [(371, g0), (388, g17)]) w) (fun q τ => q = some r ∧ τ = mH B (mE v [(371, f1)]) w) := tX10_count (d := 9) (r := 371) hB x1 g0 g17 (by rw [e]; exact ⟨rfl, congrArg (fun t => mH B t w) e1⟩)
  rw [e0] at h
  exact h
set_option maxRecDepth 20000 in
set_option maxHeartbeats 4000000 in
theorem k10_end {B : mB} {v : mV} {w : mX} (hB : isMod B 371) {g0 : mF} (r0 : v 371 = g0) (x1 : Int32) {r : Int32} {f1 : mF} (e : FX10_end x1 g0 = (r, f1)) : CQ 10 166 [.ref 371, .int x1] (mH B v w) (fun q τ => q = some r ∧ τ = mH B (mE v [(371, f1)]) w) := by
  have e0 : mE v [(371, g0)] = v := mE_id _ (List.forall_mem_cons.mpr ⟨r0, (fun _ h => absurd h List.not_mem_nil)⟩)
  have e1 : mE v [(371, f1)] = mE v [(371, f1)] := (mE_cg rfl [(371, f1)])
  have h : CQ 10 166 [.ref 371, .int x1] (mH B (mE v [(371, g0)]) w) (fun q τ => q = some r ∧ τ = mH B (mE v [(371, f1)]) w) := tX10_end (d := 9) (r := 371) hB x1 g0 (by rw [e]; exact ⟨rfl, congrArg (fun t => mH B t w) e1⟩)
  rw [e0] at h
  exact h
set_option maxRecDepth 20000 in
set_option maxHeartbeats 4000000 in
theorem k10_code {B : mB} {v : mV} {w : mX} (hB : isMod B 371) {g0 g9 g10 : mF} (r0 : v 371 = g0) (r9 : v 380 = g9) (r10 : v 381 = g10) (x1 : Int32) (x2 : Int32) {r : Int32} {f1 : mF} (hO : OX10_code x1 x2 g0 g9 g10) (e : FX10_code x1 x2 g0 g9 g10 = (r, f1)) : CQ 10 236 [.ref 371, .int x1, .int x2] (mH B v w) (fun q τ => q = some r ∧ τ = mH B (mE v [(371, f1)]) w) := by
  have e0 : mE v [(371, g0), (380, g9), (381, g10)] = v := mE_id _ (List.forall_mem_cons.mpr ⟨r0, (List.forall_mem_cons.mpr ⟨r9, (List.forall_mem_cons.mpr ⟨r10, (fun _ h => absurd h List.not_mem_nil)⟩)⟩)⟩)
  have e1 : mE v [(371, f1), (380, g9), (381, g10)] = mE v [(371, f1)] := (mE_cg ((mE_cg ((mE_cg rfl [(381, g10)]).trans (mE_skp r10 (fun x hx => absurd hx List.not_mem_nil))) [(380, g9)]).trans (mE_skp r9 (fun x hx => absurd hx List.not_mem_nil))) [(371, f1)])
  have h : CQ 10 236 [.ref 371, .int x1, .int x2] (mH B (mE v [(371, g0), (380, g9), (381, g10)]) w) (fun q τ => q = some r ∧ τ = mH B (mE v [(371, f1)]) w) := tX10_code (d := 8) (r := 371) hB x1 x2 g0 g9 g10 hO (by rw [e]; exact ⟨rfl, congrArg (fun t => mH B t w) e1⟩)
  rw [e0] at h
  exact h
set_option maxRecDepth 20000 in
set_option maxHeartbeats 4000000 in
theorem k10_word {B : mB} {v : mV} {w : mX} (hB : isMod B 371) {g0 g17 : mF} (r0 : v 371 = g0) (r17 : v 388 = g17) (x1 : Int32) (x2 : Int32) {r : Int32} {f1 : mF} (hO : OX10_word x1 x2 g0 g17) (e : FX10_word x1 x2 g0 g17 = (r, f1)) : CQ 10 253 [.ref 371, .int x1, .int x2] (mH B v w) (fun q τ => q = some r ∧ τ = mH B (mE v [(371, f1)]) w) := by
  have e0 : mE v [(371, g0), (388, g17)] = v := mE_id _ (List.forall_mem_cons.mpr ⟨r0, (List.forall_mem_cons.mpr ⟨r17, (fun _ h => absurd h List.not_mem_nil)⟩)⟩)
  have e1 : mE v [(371, f1), (388, g17)] = mE v [(371, f1)] := (mE_cg ((mE_cg rfl [(388, g17)]).trans (mE_skp r17 (fun x hx => absurd hx List.not_mem_nil))) [(371, f1)])
  have h : CQ 10 253 [.ref 371, .int x1, .int x2] (mH B (mE v [(371, g0), (388, g17)]) w) (fun q τ => q = some r ∧ τ = mH B (mE v [(371, f1)]) w) := tX10_word (d := 7) (r := 371) hB x1 x2 g0 g17 hO (by rw [e]; exact ⟨rfl, congrArg (fun t => mH B t w) e1⟩)
  rw [e0] at h
  exact h
set_option maxRecDepth 20000 in
set_option maxHeartbeats 4000000 in
theorem k10_reach {B : mB} {v : mV} {w : mX} (hB : isMod B 371) {g0 g9 g10 g24 : mF} (r0 : v 371 = g0) (r9 : v 380 = g9) (r10 : v 381 = g10) (r24 : v 395 = g24) (x1 : Int32) (x2 : Int32) {r : Int32} {f1 c1 : mF} (hO : OX10_reach x1 x2 g0 g9 g10 g24) (e : FX10_reach x1 x2 g0 g9 g10 g24 = (r, f1, c1)) : CQ 10 243 [.ref 371, .int x1, .int x2] (mH B v w) (fun q τ => q = some r ∧ τ = mH B (mE v [(371, f1), (395, c1)]) w) := by
  have e0 : mE v [(371, g0), (380, g9), (381, g10), (395, g24)] = v := mE_id _ (List.forall_mem_cons.mpr ⟨r0, (List.forall_mem_cons.mpr ⟨r9, (List.forall_mem_cons.mpr ⟨r10, (List.forall_mem_cons.mpr ⟨r24, (fun _ h => absurd h List.not_mem_nil)⟩)⟩)⟩)⟩)
  have e1 : mE v [(371, f1), (380, g9), (381, g10), (395, c1)] = mE v [(371, f1), (395, c1)] := (mE_cg ((mE_cg ((mE_cg (mE_cg rfl [(395, c1)]) [(381, g10)]).trans (mE_skp r10 (List.forall_mem_cons.mpr ⟨nebq rfl, (fun x hx => absurd hx List.not_mem_nil)⟩))) [(380, g9)]).trans (mE_skp r9 (List.forall_mem_cons.mpr ⟨nebq rfl, (fun x hx => absurd hx List.not_mem_nil)⟩))) [(371, f1)])
  have h : CQ 10 243 [.ref 371, .int x1, .int x2] (mH B (mE v [(371, g0), (380, g9), (381, g10), (395, g24)]) w) (fun q τ => q = some r ∧ τ = mH B (mE v [(371, f1), (395, c1)]) w) := tX10_reach (d := 6) (r := 371) hB x1 x2 g0 g9 g10 g24 hO (by rw [e]; exact ⟨rfl, congrArg (fun t => mH B t w) e1⟩)
  rw [e0] at h
  exact h
set_option maxRecDepth 20000 in
set_option maxHeartbeats 4000000 in
theorem k10_hog {B : mB} {v : mV} {w : mX} (hB : isMod B 371) {g0 g9 g10 g24 g25 : mF} (r0 : v 371 = g0) (r9 : v 380 = g9) (r10 : v 381 = g10) (r24 : v 395 = g24) (r25 : v 396 = g25) (x1 : Int32) {r : Int32} {f1 c1 h1 : mF} (hO : OX10_hog x1 g0 g9 g10 g24 g25) (e : FX10_hog x1 g0 g9 g10 g24 g25 = (r, f1, c1, h1)) : CQ 10 244 [.ref 371, .int x1] (mH B v w) (fun q τ => q = some r ∧ τ = mH B (mE v [(371, f1), (395, c1), (396, h1)]) w) := by
  have e0 : mE v [(371, g0), (380, g9), (381, g10), (395, g24), (396, g25)] = v := mE_id _ (List.forall_mem_cons.mpr ⟨r0, (List.forall_mem_cons.mpr ⟨r9, (List.forall_mem_cons.mpr ⟨r10, (List.forall_mem_cons.mpr ⟨r24, (List.forall_mem_cons.mpr ⟨r25, (fun _ h => absurd h List.not_mem_nil)⟩)⟩)⟩)⟩)⟩)
  have e1 : mE v [(371, f1), (380, g9), (381, g10), (395, c1), (396, h1)] = mE v [(371, f1), (395, c1), (396, h1)] := (mE_cg ((mE_cg ((mE_cg (mE_cg (mE_cg rfl [(396, h1)]) [(395, c1)]) [(381, g10)]).trans (mE_skp r10 (List.forall_mem_cons.mpr ⟨nebq rfl, (List.forall_mem_cons.mpr ⟨nebq rfl, (fun x hx => absurd hx List.not_mem_nil)⟩)⟩))) [(380, g9)]).trans (mE_skp r9 (List.forall_mem_cons.mpr ⟨nebq rfl, (List.forall_mem_cons.mpr ⟨nebq rfl, (fun x hx => absurd hx List.not_mem_nil)⟩)⟩))) [(371, f1)])
  have h : CQ 10 244 [.ref 371, .int x1] (mH B (mE v [(371, g0), (380, g9), (381, g10), (395, g24), (396, g25)]) w) (fun q τ => q = some r ∧ τ = mH B (mE v [(371, f1), (395, c1), (396, h1)]) w) := tX10_hog (d := 6) (r := 371) hB x1 g0 g9 g10 g24 g25 hO (by rw [e]; exact ⟨rfl, congrArg (fun t => mH B t w) e1⟩)
  rw [e0] at h
  exact h
set_option maxRecDepth 20000 in
set_option maxHeartbeats 4000000 in
theorem k10_feed {B : mB} {v : mV} {w : mX} (hB : isMod B 371) {g0 g2 : mF} (r0 : v 371 = g0) (r2 : v 373 = g2) (x1 : Int32) (x2 : Int32) (x3 : Int32) (x4 : Int32) (x5 : Int32) {r : Int32} {f1 c1 : mF} (hO : OX10_feed x1 x2 x3 x4 x5 g0 g2) (e : FX10_feed x1 x2 x3 x4 x5 g0 g2 = (r, f1, c1)) : CQ 10 165 [.ref 371, .int x1, .int x2, .int x3, .int x4, .int x5] (mH B v w) (fun q τ => q = some r ∧ τ = mH B (mE v [(371, f1), (373, c1)]) w) := by
  have e0 : mE v [(371, g0), (373, g2)] = v := mE_id _ (List.forall_mem_cons.mpr ⟨r0, (List.forall_mem_cons.mpr ⟨r2, (fun _ h => absurd h List.not_mem_nil)⟩)⟩)
  have e1 : mE v [(371, f1), (373, c1)] = mE v [(371, f1), (373, c1)] := (mE_cg (mE_cg rfl [(373, c1)]) [(371, f1)])
  have h : CQ 10 165 [.ref 371, .int x1, .int x2, .int x3, .int x4, .int x5] (mH B (mE v [(371, g0), (373, g2)]) w) (fun q τ => q = some r ∧ τ = mH B (mE v [(371, f1), (373, c1)]) w) := tX10_feed (d := 8) (r := 371) hB x1 x2 x3 x4 x5 g0 g2 hO (by rw [e]; exact ⟨rfl, congrArg (fun t => mH B t w) e1⟩)
  rw [e0] at h
  exact h
set_option maxRecDepth 20000 in
set_option maxHeartbeats 4000000 in
theorem k10_ahead {B : mB} {v : mV} {w : mX} (hB : isMod B 371) {g0 g9 g10 g12 g17 g18 g19 g23 : mF} (r0 : v 371 = g0) (r9 : v 380 = g9) (r10 : v 381 = g10) (r12 : v 383 = g12) (r17 : v 388 = g17) (r18 : v 389 = g18) (r19 : v 390 = g19) (r23 : v 394 = g23) (x1 : Int32) (x2 : Int32) {r : Int32} {f1 n1 aa as1 dd : mF} (hO : OX10_ahead x1 x2 g0 g9 g10 g12 g17 g18 g19 g23) (e : FX10_ahead x1 x2 g0 g9 g10 g12 g17 g18 g19 g23 = (r, f1, n1, aa, as1, dd)) : CQ 10 263 [.ref 371, .int x1, .int x2] (mH B v w) (fun q τ => q = some r ∧ τ = mH B (mE v [(371, f1), (388, n1), (389, aa), (390, as1), (394, dd)]) w) := by
  have e0 : mE v [(371, g0), (380, g9), (381, g10), (383, g12), (388, g17), (389, g18), (390, g19), (394, g23)] = v := mE_id _ (List.forall_mem_cons.mpr ⟨r0, (List.forall_mem_cons.mpr ⟨r9, (List.forall_mem_cons.mpr ⟨r10, (List.forall_mem_cons.mpr ⟨r12, (List.forall_mem_cons.mpr ⟨r17, (List.forall_mem_cons.mpr ⟨r18, (List.forall_mem_cons.mpr ⟨r19, (List.forall_mem_cons.mpr ⟨r23, (fun _ h => absurd h List.not_mem_nil)⟩)⟩)⟩)⟩)⟩)⟩)⟩)⟩)
  have e1 : mE v [(371, f1), (380, g9), (381, g10), (383, g12), (388, n1), (389, aa), (390, as1), (394, dd)] = mE v [(371, f1), (388, n1), (389, aa), (390, as1), (394, dd)] := (mE_cg ((mE_cg ((mE_cg ((mE_cg (mE_cg (mE_cg (mE_cg (mE_cg rfl [(394, dd)]) [(390, as1)]) [(389, aa)]) [(388, n1)]) [(383, g12)]).trans (mE_skp r12 (List.forall_mem_cons.mpr ⟨nebq rfl, (List.forall_mem_cons.mpr ⟨nebq rfl, (List.forall_mem_cons.mpr ⟨nebq rfl, (List.forall_mem_cons.mpr ⟨nebq rfl, (fun x hx => absurd hx List.not_mem_nil)⟩)⟩)⟩)⟩))) [(381, g10)]).trans (mE_skp r10 (List.forall_mem_cons.mpr ⟨nebq rfl, (List.forall_mem_cons.mpr ⟨nebq rfl, (List.forall_mem_cons.mpr ⟨nebq rfl, (List.forall_mem_cons.mpr ⟨nebq rfl, (fun x hx => absurd hx List.not_mem_nil)⟩)⟩)⟩)⟩))) [(380, g9)]).trans (mE_skp r9 (List.forall_mem_cons.mpr ⟨nebq rfl, (List.forall_mem_cons.mpr ⟨nebq rfl, (List.forall_mem_cons.mpr ⟨nebq rfl, (List.forall_mem_cons.mpr ⟨nebq rfl, (fun x hx => absurd hx List.not_mem_nil)⟩)⟩)⟩)⟩))) [(371, f1)])
  have h : CQ 10 263 [.ref 371, .int x1, .int x2] (mH B (mE v [(371, g0), (380, g9), (381, g10), (383, g12), (388, g17), (389, g18), (390, g19), (394, g23)]) w) (fun q τ => q = some r ∧ τ = mH B (mE v [(371, f1), (388, n1), (389, aa), (390, as1), (394, dd)]) w) := tX10_ahead (d := 1) (r := 371) hB x1 x2 g0 g9 g10 g12 g17 g18 g19 g23 hO (by rw [e]; exact ⟨rfl, congrArg (fun t => mH B t w) e1⟩)
  rw [e0] at h
  exact h
set_option maxRecDepth 20000 in
set_option maxHeartbeats 4000000 in
theorem k10_share {B : mB} {v : mV} {w : mX} (hB : isMod B 371) {g0 g9 g10 g12 g17 g18 g19 g23 : mF} (r0 : v 371 = g0) (r9 : v 380 = g9) (r10 : v 381 = g10) (r12 : v 383 = g12) (r17 : v 388 = g17) (r18 : v 389 = g18) (r19 : v 390 = g19) (r23 : v 394 = g23) (x1 : Int32) (x2 : Int32) (x3 : Int32) {r : Int32} {f1 n1 aa as1 dd : mF} (hO : OX10_share x1 x2 x3 g0 g9 g10 g12 g17 g18 g19 g23) (e : FX10_share x1 x2 x3 g0 g9 g10 g12 g17 g18 g19 g23 = (r, f1, n1, aa, as1, dd)) : CQ 10 264 [.ref 371, .int x1, .int x2, .int x3] (mH B v w) (fun q τ => q = some r ∧ τ = mH B (mE v [(371, f1), (388, n1), (389, aa), (390, as1), (394, dd)]) w) := by
  have e0 : mE v [(371, g0), (380, g9), (381, g10), (383, g12), (388, g17), (389, g18), (390, g19), (394, g23)] = v := mE_id _ (List.forall_mem_cons.mpr ⟨r0, (List.forall_mem_cons.mpr ⟨r9, (List.forall_mem_cons.mpr ⟨r10, (List.forall_mem_cons.mpr ⟨r12, (List.forall_mem_cons.mpr ⟨r17, (List.forall_mem_cons.mpr ⟨r18, (List.forall_mem_cons.mpr ⟨r19, (List.forall_mem_cons.mpr ⟨r23, (fun _ h => absurd h List.not_mem_nil)⟩)⟩)⟩)⟩)⟩)⟩)⟩)⟩)
  have e1 : mE v [(371, f1), (380, g9), (381, g10), (383, g12), (388, n1), (389, aa), (390, as1), (394, dd)] = mE v [(371, f1), (388, n1), (389, aa), (390, as1), (394, dd)] := (mE_cg ((mE_cg ((mE_cg ((mE_cg (mE_cg (mE_cg (mE_cg (mE_cg rfl [(394, dd)]) [(390, as1)]) [(389, aa)]) [(388, n1)]) [(383, g12)]).trans (mE_skp r12 (List.forall_mem_cons.mpr ⟨nebq rfl, (List.forall_mem_cons.mpr ⟨nebq rfl, (List.forall_mem_cons.mpr ⟨nebq rfl, (List.forall_mem_cons.mpr ⟨nebq rfl, (fun x hx => absurd hx List.not_mem_nil)⟩)⟩)⟩)⟩))) [(381, g10)]).trans (mE_skp r10 (List.forall_mem_cons.mpr ⟨nebq rfl, (List.forall_mem_cons.mpr ⟨nebq rfl, (List.forall_mem_cons.mpr ⟨nebq rfl, (List.forall_mem_cons.mpr ⟨nebq rfl, (fun x hx => absurd hx List.not_mem_nil)⟩)⟩)⟩)⟩))) [(380, g9)]).trans (mE_skp r9 (List.forall_mem_cons.mpr ⟨nebq rfl, (List.forall_mem_cons.mpr ⟨nebq rfl, (List.forall_mem_cons.mpr ⟨nebq rfl, (List.forall_mem_cons.mpr ⟨nebq rfl, (fun x hx => absurd hx List.not_mem_nil)⟩)⟩)⟩)⟩))) [(371, f1)])
  have h : CQ 10 264 [.ref 371, .int x1, .int x2, .int x3] (mH B (mE v [(371, g0), (380, g9), (381, g10), (383, g12), (388, g17), (389, g18), (390, g19), (394, g23)]) w) (fun q τ => q = some r ∧ τ = mH B (mE v [(371, f1), (388, n1), (389, aa), (390, as1), (394, dd)]) w) := tX10_share (d := 1) (r := 371) hB x1 x2 x3 g0 g9 g10 g12 g17 g18 g19 g23 hO (by rw [e]; exact ⟨rfl, congrArg (fun t => mH B t w) e1⟩)
  rw [e0] at h
  exact h
set_option maxRecDepth 20000 in
set_option maxHeartbeats 4000000 in
theorem k10_until {B : mB} {v : mV} {w : mX} (hB : isMod B 371) {g0 g9 g10 g12 g17 g18 g19 g23 : mF} (r0 : v 371 = g0) (r9 : v 380 = g9) (r10 : v 381 = g10) (r12 : v 383 = g12) (r17 : v 388 = g17) (r18 : v 389 = g18) (r19 : v 390 = g19) (r23 : v 394 = g23) (x1 : Int32) (x2 : Int32) (x3 : Int32) (x4 : Int32) {r : Int32} {f1 n1 aa as1 dd : mF} (hO : OX10_until x1 x2 x3 x4 g0 g9 g10 g12 g17 g18 g19 g23) (e : FX10_until x1 x2 x3 x4 g0 g9 g10 g12 g17 g18 g19 g23 = (r, f1, n1, aa, as1, dd)) : CQ 10 265 [.ref 371, .int x1, .int x2, .int x3, .int x4] (mH B v w) (fun q τ => q = some r ∧ τ = mH B (mE v [(371, f1), (388, n1), (389, aa), (390, as1), (394, dd)]) w) := by
  have e0 : mE v [(371, g0), (380, g9), (381, g10), (383, g12), (388, g17), (389, g18), (390, g19), (394, g23)] = v := mE_id _ (List.forall_mem_cons.mpr ⟨r0, (List.forall_mem_cons.mpr ⟨r9, (List.forall_mem_cons.mpr ⟨r10, (List.forall_mem_cons.mpr ⟨r12, (List.forall_mem_cons.mpr ⟨r17, (List.forall_mem_cons.mpr ⟨r18, (List.forall_mem_cons.mpr ⟨r19, (List.forall_mem_cons.mpr ⟨r23, (fun _ h => absurd h List.not_mem_nil)⟩)⟩)⟩)⟩)⟩)⟩)⟩)⟩)
  have e1 : mE v [(371, f1), (380, g9), (381, g10), (383, g12), (388, n1), (389, aa), (390, as1), (394, dd)] = mE v [(371, f1), (388, n1), (389, aa), (390, as1), (394, dd)] := (mE_cg ((mE_cg ((mE_cg ((mE_cg (mE_cg (mE_cg (mE_cg (mE_cg rfl [(394, dd)]) [(390, as1)]) [(389, aa)]) [(388, n1)]) [(383, g12)]).trans (mE_skp r12 (List.forall_mem_cons.mpr ⟨nebq rfl, (List.forall_mem_cons.mpr ⟨nebq rfl, (List.forall_mem_cons.mpr ⟨nebq rfl, (List.forall_mem_cons.mpr ⟨nebq rfl, (fun x hx => absurd hx List.not_mem_nil)⟩)⟩)⟩)⟩))) [(381, g10)]).trans (mE_skp r10 (List.forall_mem_cons.mpr ⟨nebq rfl, (List.forall_mem_cons.mpr ⟨nebq rfl, (List.forall_mem_cons.mpr ⟨nebq rfl, (List.forall_mem_cons.mpr ⟨nebq rfl, (fun x hx => absurd hx List.not_mem_nil)⟩)⟩)⟩)⟩))) [(380, g9)]).trans (mE_skp r9 (List.forall_mem_cons.mpr ⟨nebq rfl, (List.forall_mem_cons.mpr ⟨nebq rfl, (List.forall_mem_cons.mpr ⟨nebq rfl, (List.forall_mem_cons.mpr ⟨nebq rfl, (fun x hx => absurd hx List.not_mem_nil)⟩)⟩)⟩)⟩))) [(371, f1)])
  have h : CQ 10 265 [.ref 371, .int x1, .int x2, .int x3, .int x4] (mH B (mE v [(371, g0), (380, g9), (381, g10), (383, g12), (388, g17), (389, g18), (390, g19), (394, g23)]) w) (fun q τ => q = some r ∧ τ = mH B (mE v [(371, f1), (388, n1), (389, aa), (390, as1), (394, dd)]) w) := tX10_until (d := 1) (r := 371) hB x1 x2 x3 x4 g0 g9 g10 g12 g17 g18 g19 g23 hO (by rw [e]; exact ⟨rfl, congrArg (fun t => mH B t w) e1⟩)
  rw [e0] at h
  exact h
set_option maxRecDepth 20000 in
set_option maxHeartbeats 4000000 in
theorem k10_slices {B : mB} {v : mV} {w : mX} (hB : isMod B 371) {g0 g9 g10 g12 g17 g18 g19 g23 g26 : mF} (r0 : v 371 = g0) (r9 : v 380 = g9) (r10 : v 381 = g10) (r12 : v 383 = g12) (r17 : v 388 = g17) (r18 : v 389 = g18) (r19 : v 390 = g19) (r23 : v 394 = g23) (r26 : v 397 = g26) (x1 : Int32) (x2 : Int32) (x3 : Int32) {r : Int32} {f1 n1 aa as1 dd gg : mF} (hO : OX10_slices x1 x2 x3 g0 g9 g10 g12 g17 g18 g19 g23 g26) (e : FX10_slices x1 x2 x3 g0 g9 g10 g12 g17 g18 g19 g23 g26 = (r, f1, n1, aa, as1, dd, gg)) : CQ 10 266 [.ref 371, .int x1, .int x2, .int x3] (mH B v w) (fun q τ => q = some r ∧ τ = mH B (mE v [(371, f1), (388, n1), (389, aa), (390, as1), (394, dd), (397, gg)]) w) := by
  have e0 : mE v [(371, g0), (380, g9), (381, g10), (383, g12), (388, g17), (389, g18), (390, g19), (394, g23), (397, g26)] = v := mE_id _ (List.forall_mem_cons.mpr ⟨r0, (List.forall_mem_cons.mpr ⟨r9, (List.forall_mem_cons.mpr ⟨r10, (List.forall_mem_cons.mpr ⟨r12, (List.forall_mem_cons.mpr ⟨r17, (List.forall_mem_cons.mpr ⟨r18, (List.forall_mem_cons.mpr ⟨r19, (List.forall_mem_cons.mpr ⟨r23, (List.forall_mem_cons.mpr ⟨r26, (fun _ h => absurd h List.not_mem_nil)⟩)⟩)⟩)⟩)⟩)⟩)⟩)⟩)⟩)
  have e1 : mE v [(371, f1), (380, g9), (381, g10), (383, g12), (388, n1), (389, aa), (390, as1), (394, dd), (397, gg)] = mE v [(371, f1), (388, n1), (389, aa), (390, as1), (394, dd), (397, gg)] := (mE_cg ((mE_cg ((mE_cg ((mE_cg (mE_cg (mE_cg (mE_cg (mE_cg (mE_cg rfl [(397, gg)]) [(394, dd)]) [(390, as1)]) [(389, aa)]) [(388, n1)]) [(383, g12)]).trans (mE_skp r12 (List.forall_mem_cons.mpr ⟨nebq rfl, (List.forall_mem_cons.mpr ⟨nebq rfl, (List.forall_mem_cons.mpr ⟨nebq rfl, (List.forall_mem_cons.mpr ⟨nebq rfl, (List.forall_mem_cons.mpr ⟨nebq rfl, (fun x hx => absurd hx List.not_mem_nil)⟩)⟩)⟩)⟩)⟩))) [(381, g10)]).trans (mE_skp r10 (List.forall_mem_cons.mpr ⟨nebq rfl, (List.forall_mem_cons.mpr ⟨nebq rfl, (List.forall_mem_cons.mpr ⟨nebq rfl, (List.forall_mem_cons.mpr ⟨nebq rfl, (List.forall_mem_cons.mpr ⟨nebq rfl, (fun x hx => absurd hx List.not_mem_nil)⟩)⟩)⟩)⟩)⟩))) [(380, g9)]).trans (mE_skp r9 (List.forall_mem_cons.mpr ⟨nebq rfl, (List.forall_mem_cons.mpr ⟨nebq rfl, (List.forall_mem_cons.mpr ⟨nebq rfl, (List.forall_mem_cons.mpr ⟨nebq rfl, (List.forall_mem_cons.mpr ⟨nebq rfl, (fun x hx => absurd hx List.not_mem_nil)⟩)⟩)⟩)⟩)⟩))) [(371, f1)])
  have h : CQ 10 266 [.ref 371, .int x1, .int x2, .int x3] (mH B (mE v [(371, g0), (380, g9), (381, g10), (383, g12), (388, g17), (389, g18), (390, g19), (394, g23), (397, g26)]) w) (fun q τ => q = some r ∧ τ = mH B (mE v [(371, f1), (388, n1), (389, aa), (390, as1), (394, dd), (397, gg)]) w) := tX10_slices (d := 1) (r := 371) hB x1 x2 x3 g0 g9 g10 g12 g17 g18 g19 g23 g26 hO (by rw [e]; exact ⟨rfl, congrArg (fun t => mH B t w) e1⟩)
  rw [e0] at h
  exact h
set_option maxRecDepth 20000 in
set_option maxHeartbeats 4000000 in
theorem k10_slice {B : mB} {v : mV} {w : mX} (hB : isMod B 371) {g0 g17 g20 : mF} (r0 : v 371 = g0) (r17 : v 388 = g17) (r20 : v 391 = g20) (x1 : Int32) {r : Int32} {f1 n1 ac : mF} (hO : OX10_slice x1 g0 g17 g20) (e : FX10_slice x1 g0 g17 g20 = (r, f1, n1, ac)) : CQ 10 247 [.ref 371, .int x1] (mH B v w) (fun q τ => q = some r ∧ τ = mH B (mE v [(371, f1), (388, n1), (391, ac)]) w) := by
  have e0 : mE v [(371, g0), (388, g17), (391, g20)] = v := mE_id _ (List.forall_mem_cons.mpr ⟨r0, (List.forall_mem_cons.mpr ⟨r17, (List.forall_mem_cons.mpr ⟨r20, (fun _ h => absurd h List.not_mem_nil)⟩)⟩)⟩)
  have e1 : mE v [(371, f1), (388, n1), (391, ac)] = mE v [(371, f1), (388, n1), (391, ac)] := (mE_cg (mE_cg (mE_cg rfl [(391, ac)]) [(388, n1)]) [(371, f1)])
  have h : CQ 10 247 [.ref 371, .int x1] (mH B (mE v [(371, g0), (388, g17), (391, g20)]) w) (fun q τ => q = some r ∧ τ = mH B (mE v [(371, f1), (388, n1), (391, ac)]) w) := tX10_slice (d := 8) (r := 371) hB x1 g0 g17 g20 hO (by rw [e]; exact ⟨rfl, congrArg (fun t => mH B t w) e1⟩)
  rw [e0] at h
  exact h
set_option maxRecDepth 20000 in
set_option maxHeartbeats 4000000 in
theorem k10_poke {B : mB} {v : mV} {w : mX} (hB : isMod B 371) {g0 g17 g20 : mF} (r0 : v 371 = g0) (r17 : v 388 = g17) (r20 : v 391 = g20) (x1 : Int32) (x2 : Int32) (x3 : Int32) {r : Int32} {f1 n1 ac : mF} (hO : OX10_poke x1 x2 x3 g0 g17 g20) (e : FX10_poke x1 x2 x3 g0 g17 g20 = (r, f1, n1, ac)) : CQ 10 249 [.ref 371, .int x1, .int x2, .int x3] (mH B v w) (fun q τ => q = some r ∧ τ = mH B (mE v [(371, f1), (388, n1), (391, ac)]) w) := by
  have e0 : mE v [(371, g0), (388, g17), (391, g20)] = v := mE_id _ (List.forall_mem_cons.mpr ⟨r0, (List.forall_mem_cons.mpr ⟨r17, (List.forall_mem_cons.mpr ⟨r20, (fun _ h => absurd h List.not_mem_nil)⟩)⟩)⟩)
  have e1 : mE v [(371, f1), (388, n1), (391, ac)] = mE v [(371, f1), (388, n1), (391, ac)] := (mE_cg (mE_cg (mE_cg rfl [(391, ac)]) [(388, n1)]) [(371, f1)])
  have h : CQ 10 249 [.ref 371, .int x1, .int x2, .int x3] (mH B (mE v [(371, g0), (388, g17), (391, g20)]) w) (fun q τ => q = some r ∧ τ = mH B (mE v [(371, f1), (388, n1), (391, ac)]) w) := tX10_poke (d := 7) (r := 371) hB x1 x2 x3 g0 g17 g20 hO (by rw [e]; exact ⟨rfl, congrArg (fun t => mH B t w) e1⟩)
  rw [e0] at h
  exact h
set_option maxRecDepth 20000 in
set_option maxHeartbeats 4000000 in
theorem k10_start {B : mB} {v : mV} {w : mX} (hB : isMod B 371) {g0 g17 g20 : mF} (r0 : v 371 = g0) (r17 : v 388 = g17) (r20 : v 391 = g20) (x1 : Int32) (x2 : Int32) (x3 : Int32) (x4 : Int32) {r : Int32} {f1 n1 ac : mF} (hO : OX10_start x1 x2 x3 x4 g0 g17 g20) (e : FX10_start x1 x2 x3 x4 g0 g17 g20 = (r, f1, n1, ac)) : CQ 10 250 [.ref 371, .int x1, .int x2, .int x3, .int x4] (mH B v w) (fun q τ => q = some r ∧ τ = mH B (mE v [(371, f1), (388, n1), (391, ac)]) w) := by
  have e0 : mE v [(371, g0), (388, g17), (391, g20)] = v := mE_id _ (List.forall_mem_cons.mpr ⟨r0, (List.forall_mem_cons.mpr ⟨r17, (List.forall_mem_cons.mpr ⟨r20, (fun _ h => absurd h List.not_mem_nil)⟩)⟩)⟩)
  have e1 : mE v [(371, f1), (388, n1), (391, ac)] = mE v [(371, f1), (388, n1), (391, ac)] := (mE_cg (mE_cg (mE_cg rfl [(391, ac)]) [(388, n1)]) [(371, f1)])
  have h : CQ 10 250 [.ref 371, .int x1, .int x2, .int x3, .int x4] (mH B (mE v [(371, g0), (388, g17), (391, g20)]) w) (fun q τ => q = some r ∧ τ = mH B (mE v [(371, f1), (388, n1), (391, ac)]) w) := tX10_start (d := 6) (r := 371) hB x1 x2 x3 x4 g0 g17 g20 hO (by rw [e]; exact ⟨rfl, congrArg (fun t => mH B t w) e1⟩)
  rw [e0] at h
  exact h
set_option maxRecDepth 20000 in
set_option maxHeartbeats 4000000 in
theorem k10_tick {B : mB} {v : mV} {w : mX} (hB : isMod B 371) {g0 g9 g10 g12 g17 g18 g20 g23 : mF} (r0 : v 371 = g0) (r9 : v 380 = g9) (r10 : v 381 = g10) (r12 : v 383 = g12) (r17 : v 388 = g17) (r18 : v 389 = g18) (r20 : v 391 = g20) (r23 : v 394 = g23) (x1 : Int32) {r : Int32} {f1 n1 aa ac dd : mF} (hO : OX10_tick x1 g0 g9 g10 g12 g17 g18 g20 g23) (e : FX10_tick x1 g0 g9 g10 g12 g17 g18 g20 g23 = (r, f1, n1, aa, ac, dd)) : CQ 10 251 [.ref 371, .int x1] (mH B v w) (fun q τ => q = some r ∧ τ = mH B (mE v [(371, f1), (388, n1), (389, aa), (391, ac), (394, dd)]) w) := by
  have e0 : mE v [(371, g0), (380, g9), (381, g10), (383, g12), (388, g17), (389, g18), (391, g20), (394, g23)] = v := mE_id _ (List.forall_mem_cons.mpr ⟨r0, (List.forall_mem_cons.mpr ⟨r9, (List.forall_mem_cons.mpr ⟨r10, (List.forall_mem_cons.mpr ⟨r12, (List.forall_mem_cons.mpr ⟨r17, (List.forall_mem_cons.mpr ⟨r18, (List.forall_mem_cons.mpr ⟨r20, (List.forall_mem_cons.mpr ⟨r23, (fun _ h => absurd h List.not_mem_nil)⟩)⟩)⟩)⟩)⟩)⟩)⟩)⟩)
  have e1 : mE v [(371, f1), (380, g9), (381, g10), (383, g12), (388, n1), (389, aa), (391, ac), (394, dd)] = mE v [(371, f1), (388, n1), (389, aa), (391, ac), (394, dd)] := (mE_cg ((mE_cg ((mE_cg ((mE_cg (mE_cg (mE_cg (mE_cg (mE_cg rfl [(394, dd)]) [(391, ac)]) [(389, aa)]) [(388, n1)]) [(383, g12)]).trans (mE_skp r12 (List.forall_mem_cons.mpr ⟨nebq rfl, (List.forall_mem_cons.mpr ⟨nebq rfl, (List.forall_mem_cons.mpr ⟨nebq rfl, (List.forall_mem_cons.mpr ⟨nebq rfl, (fun x hx => absurd hx List.not_mem_nil)⟩)⟩)⟩)⟩))) [(381, g10)]).trans (mE_skp r10 (List.forall_mem_cons.mpr ⟨nebq rfl, (List.forall_mem_cons.mpr ⟨nebq rfl, (List.forall_mem_cons.mpr ⟨nebq rfl, (List.forall_mem_cons.mpr ⟨nebq rfl, (fun x hx => absurd hx List.not_mem_nil)⟩)⟩)⟩)⟩))) [(380, g9)]).trans (mE_skp r9 (List.forall_mem_cons.mpr ⟨nebq rfl, (List.forall_mem_cons.mpr ⟨nebq rfl, (List.forall_mem_cons.mpr ⟨nebq rfl, (List.forall_mem_cons.mpr ⟨nebq rfl, (fun x hx => absurd hx List.not_mem_nil)⟩)⟩)⟩)⟩))) [(371, f1)])
  have h : CQ 10 251 [.ref 371, .int x1] (mH B (mE v [(371, g0), (380, g9), (381, g10), (383, g12), (388, g17), (389, g18), (391, g20), (394, g23)]) w) (fun q τ => q = some r ∧ τ = mH B (mE v [(371, f1), (388, n1), (389, aa), (391, ac), (394, dd)]) w) := tX10_tick (d := 1) (r := 371) hB x1 g0 g9 g10 g12 g17 g18 g20 g23 hO (by rw [e]; exact ⟨rfl, congrArg (fun t => mH B t w) e1⟩)
  rw [e0] at h
  exact h
set_option maxRecDepth 20000 in
set_option maxHeartbeats 4000000 in
theorem k10_undo {B : mB} {v : mV} {w : mX} (hB : isMod B 371) {g0 g17 g20 : mF} (r0 : v 371 = g0) (r17 : v 388 = g17) (r20 : v 391 = g20) {r : Int32} {f1 n1 : mF} (hO : OX10_undo g0 g17 g20) (e : FX10_undo g0 g17 g20 = (r, f1, n1)) : CQ 10 246 [.ref 371] (mH B v w) (fun q τ => q = some r ∧ τ = mH B (mE v [(371, f1), (388, n1)]) w) := by
  have e0 : mE v [(371, g0), (388, g17), (391, g20)] = v := mE_id _ (List.forall_mem_cons.mpr ⟨r0, (List.forall_mem_cons.mpr ⟨r17, (List.forall_mem_cons.mpr ⟨r20, (fun _ h => absurd h List.not_mem_nil)⟩)⟩)⟩)
  have e1 : mE v [(371, f1), (388, n1), (391, g20)] = mE v [(371, f1), (388, n1)] := (mE_cg (mE_cg ((mE_cg rfl [(391, g20)]).trans (mE_skp r20 (fun x hx => absurd hx List.not_mem_nil))) [(388, n1)]) [(371, f1)])
  have h : CQ 10 246 [.ref 371] (mH B (mE v [(371, g0), (388, g17), (391, g20)]) w) (fun q τ => q = some r ∧ τ = mH B (mE v [(371, f1), (388, n1)]) w) := tX10_undo (d := 9) (r := 371) hB g0 g17 g20 hO (by rw [e]; exact ⟨rfl, congrArg (fun t => mH B t w) e1⟩)
  rw [e0] at h
  exact h
set_option maxRecDepth 20000 in
set_option maxHeartbeats 4000000 in
theorem k10_back {B : mB} {v : mV} {w : mX} (hB : isMod B 371) {g0 g17 g21 g22 : mF} (r0 : v 371 = g0) (r17 : v 388 = g17) (r21 : v 392 = g21) (r22 : v 393 = g22) (x1 : Int32) {r : Int32} {f1 n1 : mF} (hO : OX10_back x1 g0 g17 g21 g22) (e : FX10_back x1 g0 g17 g21 g22 = (r, f1, n1)) : CQ 10 268 [.ref 371, .int x1] (mH B v w) (fun q τ => q = some r ∧ τ = mH B (mE v [(371, f1), (388, n1)]) w) := by
  have e0 : mE v [(371, g0), (388, g17), (392, g21), (393, g22)] = v := mE_id _ (List.forall_mem_cons.mpr ⟨r0, (List.forall_mem_cons.mpr ⟨r17, (List.forall_mem_cons.mpr ⟨r21, (List.forall_mem_cons.mpr ⟨r22, (fun _ h => absurd h List.not_mem_nil)⟩)⟩)⟩)⟩)
  have e1 : mE v [(371, f1), (388, n1), (392, g21), (393, g22)] = mE v [(371, f1), (388, n1)] := (mE_cg (mE_cg ((mE_cg ((mE_cg rfl [(393, g22)]).trans (mE_skp r22 (fun x hx => absurd hx List.not_mem_nil))) [(392, g21)]).trans (mE_skp r21 (fun x hx => absurd hx List.not_mem_nil))) [(388, n1)]) [(371, f1)])
  have h : CQ 10 268 [.ref 371, .int x1] (mH B (mE v [(371, g0), (388, g17), (392, g21), (393, g22)]) w) (fun q τ => q = some r ∧ τ = mH B (mE v [(371, f1), (388, n1)]) w) := tX10_back (d := 8) (r := 371) hB x1 g0 g17 g21 g22 hO (by rw [e]; exact ⟨rfl, congrArg (fun t => mH B t w) e1⟩)
  rw [e0] at h
  exact h
set_option maxRecDepth 20000 in
set_option maxHeartbeats 4000000 in
theorem k10_keep {B : mB} {v : mV} {w : mX} (hB : isMod B 371) {g0 g17 g21 g22 : mF} (r0 : v 371 = g0) (r17 : v 388 = g17) (r21 : v 392 = g21) (r22 : v 393 = g22) (x1 : Int32) {r : Int32} {f1 k1 q1 : mF} (hO : OX10_keep x1 g0 g17 g21 g22) (e : FX10_keep x1 g0 g17 g21 g22 = (r, f1, k1, q1)) : CQ 10 267 [.ref 371, .int x1] (mH B v w) (fun q τ => q = some r ∧ τ = mH B (mE v [(371, f1), (392, k1), (393, q1)]) w) := by
  have e0 : mE v [(371, g0), (388, g17), (392, g21), (393, g22)] = v := mE_id _ (List.forall_mem_cons.mpr ⟨r0, (List.forall_mem_cons.mpr ⟨r17, (List.forall_mem_cons.mpr ⟨r21, (List.forall_mem_cons.mpr ⟨r22, (fun _ h => absurd h List.not_mem_nil)⟩)⟩)⟩)⟩)
  have e1 : mE v [(371, f1), (388, g17), (392, k1), (393, q1)] = mE v [(371, f1), (392, k1), (393, q1)] := (mE_cg ((mE_cg (mE_cg (mE_cg rfl [(393, q1)]) [(392, k1)]) [(388, g17)]).trans (mE_skp r17 (List.forall_mem_cons.mpr ⟨nebq rfl, (List.forall_mem_cons.mpr ⟨nebq rfl, (fun x hx => absurd hx List.not_mem_nil)⟩)⟩))) [(371, f1)])
  have h : CQ 10 267 [.ref 371, .int x1] (mH B (mE v [(371, g0), (388, g17), (392, g21), (393, g22)]) w) (fun q τ => q = some r ∧ τ = mH B (mE v [(371, f1), (392, k1), (393, q1)]) w) := tX10_keep (d := 8) (r := 371) hB x1 g0 g17 g21 g22 hO (by rw [e]; exact ⟨rfl, congrArg (fun t => mH B t w) e1⟩)
  rw [e0] at h
  exact h
