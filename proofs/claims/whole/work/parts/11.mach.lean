/-! GENERATED (wip/gen/g11.py): what the methods of the machines do -/
def FX9_isMachine (x0 : Int32) : Int32 :=
  if x0 < 0 then (0) else (if 2 ≤ x0 then (0) else (1))
set_option maxRecDepth 20000 in
theorem tX9_isMachine {d : Nat} {B : mB} {v : mV} {w : mX} {Q : Option Int32 → mMH → Prop} (x0 : Int32) (hQ : Q (some (FX9_isMachine x0)) (mH B (mE v []) w)) : CQ (d + 1) 153 [.int x0] (mH B (mE v []) w) Q := by
  obtain ⟨P, hPQ, hP⟩ : ∃ P : Int32 → Prop, (∀ (q : Int32), P q → Q (some q) (mH B (mE v []) w)) ∧ P (FX9_isMachine x0) := ⟨fun res => Q (some res) (mH B (mE v []) w), fun _ h => h, hQ⟩
  refine r_begin mt_153 (by intro a ha; simp only [List.mem_cons, List.not_mem_nil, or_false] at ha; rcases ha with rfl <;> rfl) (Nat.le_of_ble_eq_true rfl) ?_
  rw [FX9_isMachine] at hP
  show RB _ _ _ _ [some (.int x0)] [] _ _
  refine r_iload rfl ?_
  refine r_if (fun c1 : x0 < 0 => ?_) (fun c1 : ¬ (x0 < 0) => ?_)
  · rw [if_pos c1] at hP
    refine r_int ?_
    refine r_fall ?_
    exact r_ret rfl rfl (hPQ 0 hP)
  · rw [if_neg c1] at hP
    refine r_iload rfl ?_
    refine r_int ?_
    refine r_icmp (fun c2 : 2 ≤ x0 => ?_) (fun c2 : ¬ (2 ≤ x0) => ?_)
    · rw [if_pos c2] at hP
      refine r_int ?_
      refine r_fall ?_
      exact r_ret rfl rfl (hPQ 0 hP)
    · rw [if_neg c2] at hP
      refine r_int ?_
      refine r_goto ?_
      exact r_ret rfl rfl (hPQ 1 hP)

def FX9_isPlace (x0 : Int32) : Int32 :=
  if x0 < 0 then (0) else (if 96 ≤ x0 then (0) else (1))
set_option maxRecDepth 20000 in
theorem tX9_isPlace {d : Nat} {B : mB} {v : mV} {w : mX} {Q : Option Int32 → mMH → Prop} (x0 : Int32) (hQ : Q (some (FX9_isPlace x0)) (mH B (mE v []) w)) : CQ (d + 1) 154 [.int x0] (mH B (mE v []) w) Q := by
  obtain ⟨P, hPQ, hP⟩ : ∃ P : Int32 → Prop, (∀ (q : Int32), P q → Q (some q) (mH B (mE v []) w)) ∧ P (FX9_isPlace x0) := ⟨fun res => Q (some res) (mH B (mE v []) w), fun _ h => h, hQ⟩
  refine r_begin mt_154 (by intro a ha; simp only [List.mem_cons, List.not_mem_nil, or_false] at ha; rcases ha with rfl <;> rfl) (Nat.le_of_ble_eq_true rfl) ?_
  rw [FX9_isPlace] at hP
  show RB _ _ _ _ [some (.int x0)] [] _ _
  refine r_iload rfl ?_
  refine r_if (fun c1 : x0 < 0 => ?_) (fun c1 : ¬ (x0 < 0) => ?_)
  · rw [if_pos c1] at hP
    refine r_int ?_
    refine r_fall ?_
    exact r_ret rfl rfl (hPQ 0 hP)
  · rw [if_neg c1] at hP
    refine r_iload rfl ?_
    refine r_int ?_
    refine r_icmp (fun c2 : 96 ≤ x0 => ?_) (fun c2 : ¬ (96 ≤ x0) => ?_)
    · rw [if_pos c2] at hP
      refine r_int ?_
      refine r_fall ?_
      exact r_ret rfl rfl (hPQ 0 hP)
    · rw [if_neg c2] at hP
      refine r_int ?_
      refine r_goto ?_
      exact r_ret rfl rfl (hPQ 1 hP)

def FX9_arePlaces (x0 : Int32) (x1 : Int32) : Int32 :=
  if x0 < 0 then (0) else (if (96 - x1) < x0 then (0) else (1))
set_option maxRecDepth 20000 in
theorem tX9_arePlaces {d : Nat} {B : mB} {v : mV} {w : mX} {Q : Option Int32 → mMH → Prop} (x0 : Int32) (x1 : Int32) (hQ : Q (some (FX9_arePlaces x0 x1)) (mH B (mE v []) w)) : CQ (d + 1) 155 [.int x0, .int x1] (mH B (mE v []) w) Q := by
  obtain ⟨P, hPQ, hP⟩ : ∃ P : Int32 → Prop, (∀ (q : Int32), P q → Q (some q) (mH B (mE v []) w)) ∧ P (FX9_arePlaces x0 x1) := ⟨fun res => Q (some res) (mH B (mE v []) w), fun _ h => h, hQ⟩
  refine r_begin mt_155 (by intro a ha; simp only [List.mem_cons, List.not_mem_nil, or_false] at ha; rcases ha with rfl | rfl <;> rfl) (Nat.le_of_ble_eq_true rfl) ?_
  rw [FX9_arePlaces] at hP
  show RB _ _ _ _ [some (.int x0), some (.int x1)] [] _ _
  refine r_iload rfl ?_
  refine r_if (fun c1 : x0 < 0 => ?_) (fun c1 : ¬ (x0 < 0) => ?_)
  · rw [if_pos c1] at hP
    refine r_int ?_
    refine r_fall ?_
    exact r_ret rfl rfl (hPQ 0 hP)
  · rw [if_neg c1] at hP
    refine r_iload rfl ?_
    refine r_int ?_
    refine r_iload rfl ?_
    refine r_isub ?_
    refine r_icmp (fun c2 : (96 - x1) < x0 => ?_) (fun c2 : ¬ ((96 - x1) < x0) => ?_)
    · rw [if_pos c2] at hP
      refine r_int ?_
      refine r_fall ?_
      exact r_ret rfl rfl (hPQ 0 hP)
    · rw [if_neg c2] at hP
      refine r_int ?_
      refine r_goto ?_
      exact r_ret rfl rfl (hPQ 1 hP)

def FX9_isW (x0 : Int32) : Int32 :=
  if x0 < 5 then (0) else (if 95 < x0 then (0) else (1))
set_option maxRecDepth 20000 in
theorem tX9_isW {d : Nat} {B : mB} {v : mV} {w : mX} {Q : Option Int32 → mMH → Prop} (x0 : Int32) (hQ : Q (some (FX9_isW x0)) (mH B (mE v []) w)) : CQ (d + 1) 156 [.int x0] (mH B (mE v []) w) Q := by
  obtain ⟨P, hPQ, hP⟩ : ∃ P : Int32 → Prop, (∀ (q : Int32), P q → Q (some q) (mH B (mE v []) w)) ∧ P (FX9_isW x0) := ⟨fun res => Q (some res) (mH B (mE v []) w), fun _ h => h, hQ⟩
  refine r_begin mt_156 (by intro a ha; simp only [List.mem_cons, List.not_mem_nil, or_false] at ha; rcases ha with rfl <;> rfl) (Nat.le_of_ble_eq_true rfl) ?_
  rw [FX9_isW] at hP
  show RB _ _ _ _ [some (.int x0)] [] _ _
  refine r_iload rfl ?_
  refine r_int ?_
  refine r_icmp (fun c1 : x0 < 5 => ?_) (fun c1 : ¬ (x0 < 5) => ?_)
  · rw [if_pos c1] at hP
    refine r_int ?_
    refine r_fall ?_
    exact r_ret rfl rfl (hPQ 0 hP)
  · rw [if_neg c1] at hP
    refine r_iload rfl ?_
    refine r_int ?_
    refine r_icmp (fun c2 : 95 < x0 => ?_) (fun c2 : ¬ (95 < x0) => ?_)
    · rw [if_pos c2] at hP
      refine r_int ?_
      refine r_fall ?_
      exact r_ret rfl rfl (hPQ 0 hP)
    · rw [if_neg c2] at hP
      refine r_int ?_
      refine r_goto ?_
      exact r_ret rfl rfl (hPQ 1 hP)

def FX9_isPriority (x0 : Int32) : Int32 :=
  if x0 = 0 then (1) else (if x0 = 1 then (1) else (0))
set_option maxRecDepth 20000 in
theorem tX9_isPriority {d : Nat} {B : mB} {v : mV} {w : mX} {Q : Option Int32 → mMH → Prop} (x0 : Int32) (hQ : Q (some (FX9_isPriority x0)) (mH B (mE v []) w)) : CQ (d + 1) 157 [.int x0] (mH B (mE v []) w) Q := by
  obtain ⟨P, hPQ, hP⟩ : ∃ P : Int32 → Prop, (∀ (q : Int32), P q → Q (some q) (mH B (mE v []) w)) ∧ P (FX9_isPriority x0) := ⟨fun res => Q (some res) (mH B (mE v []) w), fun _ h => h, hQ⟩
  refine r_begin mt_157 (by intro a ha; simp only [List.mem_cons, List.not_mem_nil, or_false] at ha; rcases ha with rfl <;> rfl) (Nat.le_of_ble_eq_true rfl) ?_
  rw [FX9_isPriority] at hP
  show RB _ _ _ _ [some (.int x0)] [] _ _
  refine r_iload rfl ?_
  refine r_if (fun c1 : x0 = 0 => ?_) (fun c1 : ¬ (x0 = 0) => ?_)
  · rw [if_pos c1] at hP
    refine r_int ?_
    refine r_goto ?_
    exact r_ret rfl rfl (hPQ 1 hP)
  · rw [if_neg c1] at hP
    refine r_iload rfl ?_
    refine r_int ?_
    refine r_icmp1 (fun c2 : x0 = 1 => ?_) (fun c2 : ¬ (x0 = 1) => ?_)
    · rw [if_pos c2] at hP
      refine r_fall ?_
      refine r_int ?_
      refine r_goto ?_
      exact r_ret rfl rfl (hPQ 1 hP)
    · rw [if_neg c2] at hP
      refine r_int ?_
      refine r_fall ?_
      exact r_ret rfl rfl (hPQ 0 hP)

def FX9_isProcess (x0 : Int32) : Int32 :=
  if x0 < 10 then (0) else (if 191 < x0 then (0) else (1))
set_option maxRecDepth 20000 in
theorem tX9_isProcess {d : Nat} {B : mB} {v : mV} {w : mX} {Q : Option Int32 → mMH → Prop} (x0 : Int32) (hQ : Q (some (FX9_isProcess x0)) (mH B (mE v []) w)) : CQ (d + 1) 158 [.int x0] (mH B (mE v []) w) Q := by
  obtain ⟨P, hPQ, hP⟩ : ∃ P : Int32 → Prop, (∀ (q : Int32), P q → Q (some q) (mH B (mE v []) w)) ∧ P (FX9_isProcess x0) := ⟨fun res => Q (some res) (mH B (mE v []) w), fun _ h => h, hQ⟩
  refine r_begin mt_158 (by intro a ha; simp only [List.mem_cons, List.not_mem_nil, or_false] at ha; rcases ha with rfl <;> rfl) (Nat.le_of_ble_eq_true rfl) ?_
  rw [FX9_isProcess] at hP
  show RB _ _ _ _ [some (.int x0)] [] _ _
  refine r_iload rfl ?_
  refine r_int ?_
  refine r_icmp (fun c1 : x0 < 10 => ?_) (fun c1 : ¬ (x0 < 10) => ?_)
  · rw [if_pos c1] at hP
    refine r_int ?_
    refine r_fall ?_
    exact r_ret rfl rfl (hPQ 0 hP)
  · rw [if_neg c1] at hP
    refine r_iload rfl ?_
    refine r_int ?_
    refine r_icmp (fun c2 : 191 < x0 => ?_) (fun c2 : ¬ (191 < x0) => ?_)
    · rw [if_pos c2] at hP
      refine r_int ?_
      refine r_fall ?_
      exact r_ret rfl rfl (hPQ 0 hP)
    · rw [if_neg c2] at hP
      refine r_int ?_
      refine r_goto ?_
      exact r_ret rfl rfl (hPQ 1 hP)

def FX9_isAfter (x0 : Int32) (x1 : Int32) : Int32 :=
  if (x0 - x1) ≤ 0 then (0) else (1)
set_option maxRecDepth 20000 in
theorem tX9_isAfter {d : Nat} {B : mB} {v : mV} {w : mX} {Q : Option Int32 → mMH → Prop} (x0 : Int32) (x1 : Int32) (hQ : Q (some (FX9_isAfter x0 x1)) (mH B (mE v []) w)) : CQ (d + 1) 159 [.int x0, .int x1] (mH B (mE v []) w) Q := by
  obtain ⟨P, hPQ, hP⟩ : ∃ P : Int32 → Prop, (∀ (q : Int32), P q → Q (some q) (mH B (mE v []) w)) ∧ P (FX9_isAfter x0 x1) := ⟨fun res => Q (some res) (mH B (mE v []) w), fun _ h => h, hQ⟩
  refine r_begin mt_159 (by intro a ha; simp only [List.mem_cons, List.not_mem_nil, or_false] at ha; rcases ha with rfl | rfl <;> rfl) (Nat.le_of_ble_eq_true rfl) ?_
  rw [FX9_isAfter] at hP
  show RB _ _ _ _ [some (.int x0), some (.int x1)] [] _ _
  refine r_iload rfl ?_
  refine r_iload rfl ?_
  refine r_isub ?_
  refine r_if (fun c1 : (x0 - x1) ≤ 0 => ?_) (fun c1 : ¬ ((x0 - x1) ≤ 0) => ?_)
  · rw [if_pos c1] at hP
    refine r_int ?_
    refine r_fall ?_
    exact r_ret rfl rfl (hPQ 0 hP)
  · rw [if_neg c1] at hP
    refine r_int ?_
    refine r_goto ?_
    exact r_ret rfl rfl (hPQ 1 hP)

def FX0_empty (f_this : mF) : Int32 × mF :=
  (0, (upd (upd f_this 0 0) 1 0))
set_option maxRecDepth 20000 in
theorem tX0_empty {d : Nat} {B : mB} {v : mV} {w : mX} {Q : Option Int32 → mMH → Prop} {g : Nat} (hB : isDia B g) (f_this : mF) (hQ : Q (none) (mH B (mE v [(g, (FX0_empty f_this).2)]) w)) : CQ (d + 1) 1 [.ref g] (mH B (mE v [(g, f_this)]) w) Q := by
  have hn : ∀ (f_this : mF), mNd [(g, f_this)] := fun _ => by
    show List.Nodup _
    simp only [List.map_cons, List.map_nil, List.nodup_cons, List.mem_cons, List.not_mem_nil, or_false, not_or, not_false_eq_true, List.nodup_nil, and_true]
  obtain ⟨P, hPQ, hP⟩ : ∃ P : Int32 × mF → Prop, (∀ (q : Int32) (q0 : mF), P (q, q0) → Q (none) (mH B (mE v [(g, q0)]) w)) ∧ P (FX0_empty f_this) := ⟨fun res => Q (none) (mH B (mE v [(g, res.2)]) w), fun _ _ h => h, hQ⟩
  refine r_begin mt_1 (by intro a ha; simp only [List.mem_cons, List.not_mem_nil, or_false] at ha; rcases ha with rfl <;> rfl) (Nat.le_of_ble_eq_true rfl) ?_
  rw [FX0_empty] at hP
  show RB _ _ _ _ [some (.ref g)] [] _ _
  refine r_aload rfl ?_
  refine r_int ?_
  refine r_put (env' := [(g, (upd f_this 0 0))]) 0 (hn _) rfl rfl hB.1 ?_
  refine r_aload rfl ?_
  refine r_int ?_
  refine r_put (env' := [(g, (upd (upd f_this 0 0) 1 0))]) 0 (hn _) rfl rfl hB.1 ?_
  exact r_retv rfl (hPQ 0 (upd (upd f_this 0 0) 1 0) hP)

def FX0_note (x1 : Int32) (x2 : Int32) (x3 : Int32) (x4 : Int32) (x5 : Int32) (f_this : mF) (f_meetings : mF) : Int32 × mF × mF :=
  let g2 := upd f_meetings ((((f_this 1) - (f_this 1) / 30 * 30) * 6 : Int32).toNatClampNeg) (f_this 0); let g4 := upd g2 (((((f_this 1) - (f_this 1) / 30 * 30) * 6) + 1 : Int32).toNatClampNeg) x1; let g6 := upd g4 (((((f_this 1) - (f_this 1) / 30 * 30) * 6) + 2 : Int32).toNatClampNeg) x2; let g8 := upd g6 (((((f_this 1) - (f_this 1) / 30 * 30) * 6) + 3 : Int32).toNatClampNeg) x3; let g10 := upd g8 (((((f_this 1) - (f_this 1) / 30 * 30) * 6) + 4 : Int32).toNatClampNeg) x4; let g12 := upd g10 (((((f_this 1) - (f_this 1) / 30 * 30) * 6) + 5 : Int32).toNatClampNeg) x5; (0, (upd f_this 1 ((f_this 1) + 1)), g12)
def OX0_note (x1 : Int32) (x2 : Int32) (x3 : Int32) (x4 : Int32) (x5 : Int32) (f_this : mF) (f_meetings : mF) : Prop :=
  vp_in (((f_this 1) - (f_this 1) / 30 * 30) * 6) 180 ∧ (let g2 := upd f_meetings ((((f_this 1) - (f_this 1) / 30 * 30) * 6 : Int32).toNatClampNeg) (f_this 0); vp_in ((((f_this 1) - (f_this 1) / 30 * 30) * 6) + 1) 180 ∧ (let g4 := upd g2 (((((f_this 1) - (f_this 1) / 30 * 30) * 6) + 1 : Int32).toNatClampNeg) x1; vp_in ((((f_this 1) - (f_this 1) / 30 * 30) * 6) + 2) 180 ∧ (let g6 := upd g4 (((((f_this 1) - (f_this 1) / 30 * 30) * 6) + 2 : Int32).toNatClampNeg) x2; vp_in ((((f_this 1) - (f_this 1) / 30 * 30) * 6) + 3) 180 ∧ (let g8 := upd g6 (((((f_this 1) - (f_this 1) / 30 * 30) * 6) + 3 : Int32).toNatClampNeg) x3; vp_in ((((f_this 1) - (f_this 1) / 30 * 30) * 6) + 4) 180 ∧ (let g10 := upd g8 (((((f_this 1) - (f_this 1) / 30 * 30) * 6) + 4 : Int32).toNatClampNeg) x4; vp_in ((((f_this 1) - (f_this 1) / 30 * 30) * 6) + 5) 180)))))
set_option maxRecDepth 20000 in
theorem tX0_note {d : Nat} {B : mB} {v : mV} {w : mX} {Q : Option Int32 → mMH → Prop} {g : Nat} (hB : isDia B g) (x1 : Int32) (x2 : Int32) (x3 : Int32) (x4 : Int32) (x5 : Int32) (f_this : mF) (f_meetings : mF) (hO : OX0_note x1 x2 x3 x4 x5 f_this f_meetings) (hQ : Q (none) (mH B (mE v [(g, (FX0_note x1 x2 x3 x4 x5 f_this f_meetings).2.1), (g + 1, (FX0_note x1 x2 x3 x4 x5 f_this f_meetings).2.2)]) w)) : CQ (d + 1) 2 [.ref g, .int x1, .int x2, .int x3, .int x4, .int x5] (mH B (mE v [(g, f_this), (g + 1, f_meetings)]) w) Q := by
  have hn : ∀ (f_this : mF) (f_meetings : mF), mNd [(g, f_this), (g + 1, f_meetings)] := fun _ _ => by
    show List.Nodup _
    simp only [List.map_cons, List.map_nil, List.nodup_cons, List.mem_cons, List.not_mem_nil, or_false, not_or, not_false_eq_true, List.nodup_nil, and_true]
    omega
  obtain ⟨P, hPQ, hP⟩ : ∃ P : Int32 × mF × mF → Prop, (∀ (q : Int32) (q0 : mF) (q1 : mF), P (q, q0, q1) → Q (none) (mH B (mE v [(g, q0), (g + 1, q1)]) w)) ∧ P (FX0_note x1 x2 x3 x4 x5 f_this f_meetings) := ⟨fun res => Q (none) (mH B (mE v [(g, res.2.1), (g + 1, res.2.2)]) w), fun _ _ _ h => h, hQ⟩
  refine r_begin mt_2 (by intro a ha; simp only [List.mem_cons, List.not_mem_nil, or_false] at ha; rcases ha with rfl | rfl | rfl | rfl | rfl | rfl <;> rfl) (Nat.le_of_ble_eq_true rfl) ?_
  rw [FX0_note] at hP
  rw [OX0_note] at hO
  show RB _ _ _ _ [some (.ref g), some (.int x1), some (.int x2), some (.int x3), some (.int x4), some (.int x5), none] [] _ _
  refine r_aload rfl ?_
  refine r_get (x := f_this 1) 0 (hn _ _) rfl hB.1 (by decide) rfl ?_
  refine r_int ?_
  refine r_irem (by decide) ?_
  refine r_int ?_
  refine r_imul ?_
  refine r_istore (L' := [some (.ref g), some (.int x1), some (.int x2), some (.int x3), some (.int x4), some (.int x5), some (.int (((f_this 1) - (f_this 1) / 30 * 30) * 6))]) rfl rfl ?_
  refine r_aload rfl ?_
  refine r_getr (q := g + 1) hB.1 hB.2.2 ?_
  refine r_iload rfl ?_
  refine r_aload rfl ?_
  refine r_get (x := f_this 0) 0 (hn _ _) rfl hB.1 (by decide) rfl ?_
  obtain ⟨h1, hO⟩ := hO
  refine r_ast (y := f_this 0) (env' := [(g, f_this), (g + 1, (upd f_meetings ((((f_this 1) - (f_this 1) / 30 * 30) * 6 : Int32).toNatClampNeg) (f_this 0)))]) 1 ((((f_this 1) - (f_this 1) / 30 * 30) * 6 : Int32).toNatClampNeg) (hn _ _) rfl hB.2.1 (by decide) rfl h1 rfl rfl rfl ?_
  generalize hg_g2 : upd f_meetings ((((f_this 1) - (f_this 1) / 30 * 30) * 6 : Int32).toNatClampNeg) (f_this 0) = g2 at hP hO ⊢
  try dsimp only at hP hO
  refine r_aload rfl ?_
  refine r_getr (q := g + 1) hB.1 hB.2.2 ?_
  refine r_iload rfl ?_
  refine r_int ?_
  refine r_iadd ?_
  refine r_iload rfl ?_
  obtain ⟨h3, hO⟩ := hO
  refine r_ast (y := x1) (env' := [(g, f_this), (g + 1, (upd g2 (((((f_this 1) - (f_this 1) / 30 * 30) * 6) + 1 : Int32).toNatClampNeg) x1))]) 1 (((((f_this 1) - (f_this 1) / 30 * 30) * 6) + 1 : Int32).toNatClampNeg) (hn _ _) rfl hB.2.1 (by decide) rfl h3 rfl rfl rfl ?_
  generalize hg_g4 : upd g2 (((((f_this 1) - (f_this 1) / 30 * 30) * 6) + 1 : Int32).toNatClampNeg) x1 = g4 at hP hO ⊢
  try dsimp only at hP hO
  refine r_aload rfl ?_
  refine r_getr (q := g + 1) hB.1 hB.2.2 ?_
  refine r_iload rfl ?_
  refine r_int ?_
  refine r_iadd ?_
  refine r_iload rfl ?_
  obtain ⟨h5, hO⟩ := hO
  refine r_ast (y := x2) (env' := [(g, f_this), (g + 1, (upd g4 (((((f_this 1) - (f_this 1) / 30 * 30) * 6) + 2 : Int32).toNatClampNeg) x2))]) 1 (((((f_this 1) - (f_this 1) / 30 * 30) * 6) + 2 : Int32).toNatClampNeg) (hn _ _) rfl hB.2.1 (by decide) rfl h5 rfl rfl rfl ?_
  generalize hg_g6 : upd g4 (((((f_this 1) - (f_this 1) / 30 * 30) * 6) + 2 : Int32).toNatClampNeg) x2 = g6 at hP hO ⊢
  try dsimp only at hP hO
  refine r_aload rfl ?_
  refine r_getr (q := g + 1) hB.1 hB.2.2 ?_
  refine r_iload rfl ?_
  refine r_int ?_
  refine r_iadd ?_
  refine r_iload rfl ?_
  obtain ⟨h7, hO⟩ := hO
  refine r_ast (y := x3) (env' := [(g, f_this), (g + 1, (upd g6 (((((f_this 1) - (f_this 1) / 30 * 30) * 6) + 3 : Int32).toNatClampNeg) x3))]) 1 (((((f_this 1) - (f_this 1) / 30 * 30) * 6) + 3 : Int32).toNatClampNeg) (hn _ _) rfl hB.2.1 (by decide) rfl h7 rfl rfl rfl ?_
  generalize hg_g8 : upd g6 (((((f_this 1) - (f_this 1) / 30 * 30) * 6) + 3 : Int32).toNatClampNeg) x3 = g8 at hP hO ⊢
  try dsimp only at hP hO
  refine r_aload rfl ?_
  refine r_getr (q := g + 1) hB.1 hB.2.2 ?_
  refine r_iload rfl ?_
  refine r_int ?_
  refine r_iadd ?_
  refine r_iload rfl ?_
  obtain ⟨h9, hO⟩ := hO
  refine r_ast (y := x4) (env' := [(g, f_this), (g + 1, (upd g8 (((((f_this 1) - (f_this 1) / 30 * 30) * 6) + 4 : Int32).toNatClampNeg) x4))]) 1 (((((f_this 1) - (f_this 1) / 30 * 30) * 6) + 4 : Int32).toNatClampNeg) (hn _ _) rfl hB.2.1 (by decide) rfl h9 rfl rfl rfl ?_
  generalize hg_g10 : upd g8 (((((f_this 1) - (f_this 1) / 30 * 30) * 6) + 4 : Int32).toNatClampNeg) x4 = g10 at hP hO ⊢
  try dsimp only at hP hO
  refine r_aload rfl ?_
  refine r_getr (q := g + 1) hB.1 hB.2.2 ?_
  refine r_iload rfl ?_
  refine r_int ?_
  refine r_iadd ?_
  refine r_iload rfl ?_
  have h11 := hO
  refine r_ast (y := x5) (env' := [(g, f_this), (g + 1, (upd g10 (((((f_this 1) - (f_this 1) / 30 * 30) * 6) + 5 : Int32).toNatClampNeg) x5))]) 1 (((((f_this 1) - (f_this 1) / 30 * 30) * 6) + 5 : Int32).toNatClampNeg) (hn _ _) rfl hB.2.1 (by decide) rfl h11 rfl rfl rfl ?_
  generalize hg_g12 : upd g10 (((((f_this 1) - (f_this 1) / 30 * 30) * 6) + 5 : Int32).toNatClampNeg) x5 = g12 at hP ⊢
  try dsimp only at hP
  refine r_aload rfl ?_
  refine r_dup rfl ?_
  refine r_get (x := f_this 1) 0 (hn _ _) rfl hB.1 (by decide) rfl ?_
  refine r_int ?_
  refine r_iadd ?_
  refine r_put (env' := [(g, (upd f_this 1 ((f_this 1) + 1))), (g + 1, g12)]) 0 (hn _ _) rfl rfl hB.1 ?_
  exact r_retv rfl (hPQ 0 (upd f_this 1 ((f_this 1) + 1)) g12 hP)

def FX0_tell (x1 : Int32) (x2 : Int32) (f_this : mF) (f_meetings : mF) : Int32 :=
  if x1 < 0 then ((-1)) else (if (if 30 < (f_this 1) then 30 else (f_this 1)) ≤ x1 then ((-1)) else (if x2 < 0 then ((-1)) else (if x2 < 6 then ((f_meetings (((((((f_this 1) - (if 30 < (f_this 1) then 30 else (f_this 1))) + x1) - (((f_this 1) - (if 30 < (f_this 1) then 30 else (f_this 1))) + x1) / 30 * 30) * 6) + x2 : Int32).toNatClampNeg))) else ((-1)))))
def OX0_tell (x1 : Int32) (x2 : Int32) (f_this : mF) (f_meetings : mF) : Prop :=
  (x1 < 0 → True) ∧ (¬ (x1 < 0) → (((if 30 < (f_this 1) then 30 else (f_this 1)) ≤ x1 → True) ∧ (¬ ((if 30 < (f_this 1) then 30 else (f_this 1)) ≤ x1) → ((x2 < 0 → True) ∧ (¬ (x2 < 0) → ((x2 < 6 → (vp_in ((((((f_this 1) - (if 30 < (f_this 1) then 30 else (f_this 1))) + x1) - (((f_this 1) - (if 30 < (f_this 1) then 30 else (f_this 1))) + x1) / 30 * 30) * 6) + x2) 180)) ∧ (¬ (x2 < 6) → True)))))))
set_option maxRecDepth 20000 in
theorem tX0_tell {d : Nat} {B : mB} {v : mV} {w : mX} {Q : Option Int32 → mMH → Prop} {g : Nat} (hB : isDia B g) (x1 : Int32) (x2 : Int32) (f_this : mF) (f_meetings : mF) (hO : OX0_tell x1 x2 f_this f_meetings) (hQ : Q (some (FX0_tell x1 x2 f_this f_meetings)) (mH B (mE v [(g, f_this), (g + 1, f_meetings)]) w)) : CQ (d + 1) 3 [.ref g, .int x1, .int x2] (mH B (mE v [(g, f_this), (g + 1, f_meetings)]) w) Q := by
  have hn : ∀ (f_this : mF) (f_meetings : mF), mNd [(g, f_this), (g + 1, f_meetings)] := fun _ _ => by
    show List.Nodup _
    simp only [List.map_cons, List.map_nil, List.nodup_cons, List.mem_cons, List.not_mem_nil, or_false, not_or, not_false_eq_true, List.nodup_nil, and_true]
    omega
  obtain ⟨P, hPQ, hP⟩ : ∃ P : Int32 → Prop, (∀ (q : Int32), P q → Q (some q) (mH B (mE v [(g, f_this), (g + 1, f_meetings)]) w)) ∧ P (FX0_tell x1 x2 f_this f_meetings) := ⟨fun res => Q (some res) (mH B (mE v [(g, f_this), (g + 1, f_meetings)]) w), fun _ h => h, hQ⟩
  refine r_begin mt_3 (by intro a ha; simp only [List.mem_cons, List.not_mem_nil, or_false] at ha; rcases ha with rfl | rfl | rfl <;> rfl) (Nat.le_of_ble_eq_true rfl) ?_
  rw [FX0_tell] at hP
  rw [OX0_tell] at hO
  show RB _ _ _ _ [some (.ref g), some (.int x1), some (.int x2), none] [] _ _
  refine r_aload rfl ?_
  refine r_get (x := f_this 1) 0 (hn _ _) rfl hB.1 (by decide) rfl ?_
  refine r_int ?_
  refine r_min rfl (Nat.le_of_ble_eq_true rfl) ?_
  refine r_istore (L' := [some (.ref g), some (.int x1), some (.int x2), some (.int (if 30 < (f_this 1) then 30 else (f_this 1)))]) rfl rfl ?_
  refine r_iload rfl ?_
  refine r_if (fun c1 : x1 < 0 => ?_) (fun c1 : ¬ (x1 < 0) => ?_)
  · rw [if_pos c1] at hP
    have hO := hO.1 c1
    refine r_int ?_
    exact r_ret rfl rfl (hPQ (-1) hP)
  · rw [if_neg c1] at hP
    have hO := hO.2 c1
    refine r_iload rfl ?_
    refine r_iload rfl ?_
    refine r_icmp (fun c2 : (if 30 < (f_this 1) then 30 else (f_this 1)) ≤ x1 => ?_) (fun c2 : ¬ ((if 30 < (f_this 1) then 30 else (f_this 1)) ≤ x1) => ?_)
    · rw [if_pos c2] at hP
      have hO := hO.1 c2
      refine r_int ?_
      exact r_ret rfl rfl (hPQ (-1) hP)
    · rw [if_neg c2] at hP
      have hO := hO.2 c2
      refine r_iload rfl ?_
      refine r_if (fun c3 : x2 < 0 => ?_) (fun c3 : ¬ (x2 < 0) => ?_)
      · rw [if_pos c3] at hP
        have hO := hO.1 c3
        refine r_int ?_
        exact r_ret rfl rfl (hPQ (-1) hP)
      · rw [if_neg c3] at hP
        have hO := hO.2 c3
        refine r_iload rfl ?_
        refine r_int ?_
        refine r_icmp (fun c4 : x2 < 6 => ?_) (fun c4 : ¬ (x2 < 6) => ?_)
        · rw [if_pos c4] at hP
          have hO := hO.1 c4
          refine r_aload rfl ?_
          refine r_getr (q := g + 1) hB.1 hB.2.2 ?_
          refine r_aload rfl ?_
          refine r_get (x := f_this 1) 0 (hn _ _) rfl hB.1 (by decide) rfl ?_
          refine r_iload rfl ?_
          refine r_isub ?_
          refine r_iload rfl ?_
          refine r_iadd ?_
          refine r_int ?_
          refine r_irem (by decide) ?_
          refine r_int ?_
          refine r_imul ?_
          refine r_iload rfl ?_
          refine r_iadd ?_
          have h5 := hO
          refine r_ald (x := f_meetings (((((((f_this 1) - (if 30 < (f_this 1) then 30 else (f_this 1))) + x1) - (((f_this 1) - (if 30 < (f_this 1) then 30 else (f_this 1))) + x1) / 30 * 30) * 6) + x2 : Int32).toNatClampNeg)) 1 (((((((f_this 1) - (if 30 < (f_this 1) then 30 else (f_this 1))) + x1) - (((f_this 1) - (if 30 < (f_this 1) then 30 else (f_this 1))) + x1) / 30 * 30) * 6) + x2 : Int32).toNatClampNeg) (hn _ _) rfl hB.2.1 (by decide) rfl h5 rfl rfl ?_
          exact r_ret rfl rfl (hPQ (f_meetings (((((((f_this 1) - (if 30 < (f_this 1) then 30 else (f_this 1))) + x1) - (((f_this 1) - (if 30 < (f_this 1) then 30 else (f_this 1))) + x1) / 30 * 30) * 6) + x2 : Int32).toNatClampNeg)) hP)
        · rw [if_neg c4] at hP
          have hO := hO.2 c4
          refine r_fall ?_
          refine r_int ?_
          exact r_ret rfl rfl (hPQ (-1) hP)

def FX0_copy (f_this : mF) (f_meetings : mF) (f_oth : mF) (f_oth_meetings : mF) : Int32 × mF × mF :=
  (0, (upd (upd f_this 0 (f_oth 0)) 1 (f_oth 1)), (va_cpy f_oth_meetings f_meetings 0 0 180))
set_option maxRecDepth 20000 in
theorem tX0_copy {d : Nat} {B : mB} {v : mV} {w : mX} {Q : Option Int32 → mMH → Prop} {g g2 : Nat} (hB : isDia B g) (hB2 : isDia B g2) (hne : g + 2 ≤ g2 ∨ g2 + 2 ≤ g) (f_this : mF) (f_meetings : mF) (f_oth : mF) (f_oth_meetings : mF) (hQ : Q (none) (mH B (mE v [(g, (FX0_copy f_this f_meetings f_oth f_oth_meetings).2.1), (g + 1, (FX0_copy f_this f_meetings f_oth f_oth_meetings).2.2), (g2, f_oth), (g2 + 1, f_oth_meetings)]) w)) : CQ (d + 1) 4 [.ref g, .ref g2] (mH B (mE v [(g, f_this), (g + 1, f_meetings), (g2, f_oth), (g2 + 1, f_oth_meetings)]) w) Q := by
  have hn : ∀ (f_this : mF) (f_meetings : mF) (f_oth : mF) (f_oth_meetings : mF), mNd [(g, f_this), (g + 1, f_meetings), (g2, f_oth), (g2 + 1, f_oth_meetings)] := fun _ _ _ _ => by
    show List.Nodup _
    simp only [List.map_cons, List.map_nil, List.nodup_cons, List.mem_cons, List.not_mem_nil, or_false, not_or, not_false_eq_true, List.nodup_nil, and_true]
    omega
  obtain ⟨P, hPQ, hP⟩ : ∃ P : Int32 × mF × mF → Prop, (∀ (q : Int32) (q0 : mF) (q1 : mF), P (q, q0, q1) → Q (none) (mH B (mE v [(g, q0), (g + 1, q1), (g2, f_oth), (g2 + 1, f_oth_meetings)]) w)) ∧ P (FX0_copy f_this f_meetings f_oth f_oth_meetings) := ⟨fun res => Q (none) (mH B (mE v [(g, res.2.1), (g + 1, res.2.2), (g2, f_oth), (g2 + 1, f_oth_meetings)]) w), fun _ _ _ h => h, hQ⟩
  refine r_begin mt_4 (by intro a ha; simp only [List.mem_cons, List.not_mem_nil, or_false] at ha; rcases ha with rfl | rfl <;> rfl) (Nat.le_of_ble_eq_true rfl) ?_
  rw [FX0_copy] at hP
  show RB _ _ _ _ [some (.ref g), some (.ref g2)] [] _ _
  refine r_aload rfl ?_
  refine r_aload rfl ?_
  refine r_get (x := f_oth 0) 2 (hn _ _ _ _) rfl hB2.1 (by decide) rfl ?_
  refine r_put (env' := [(g, (upd f_this 0 (f_oth 0))), (g + 1, f_meetings), (g2, f_oth), (g2 + 1, f_oth_meetings)]) 0 (hn _ _ _ _) rfl rfl hB.1 ?_
  refine r_aload rfl ?_
  refine r_aload rfl ?_
  refine r_get (x := f_oth 1) 2 (hn _ _ _ _) rfl hB2.1 (by decide) rfl ?_
  refine r_put (env' := [(g, (upd (upd f_this 0 (f_oth 0)) 1 (f_oth 1))), (g + 1, f_meetings), (g2, f_oth), (g2 + 1, f_oth_meetings)]) 0 (hn _ _ _ _) rfl rfl hB.1 ?_
  refine r_aload rfl ?_
  refine r_getr (q := g2 + 1) hB2.1 hB2.2.2 ?_
  refine r_int ?_
  refine r_aload rfl ?_
  refine r_getr (q := g + 1) hB.1 hB.2.2 ?_
  refine r_int ?_
  refine r_aload rfl ?_
  refine r_getr (q := g + 1) hB.1 hB.2.2 ?_
  refine r_alen (x := 180) hB.2.1 (by decide) (by decide) rfl ?_
  refine r_copy (env' := [(g, (upd (upd f_this 0 (f_oth 0)) 1 (f_oth 1))), (g + 1, (va_cpy f_oth_meetings f_meetings 0 0 180)), (g2, f_oth), (g2 + 1, f_oth_meetings)]) 3 1 (hn _ _ _ _) rfl rfl hB2.2.1 hB.2.1 (by decide) (by decide) (by decide) (by decide) (by decide) (by decide) (by decide) (fun _ _ => rfl) (Nat.le_of_ble_eq_true rfl) rfl ?_
  exact r_retv rfl (hPQ 0 (upd (upd f_this 0 (f_oth 0)) 1 (f_oth 1)) (va_cpy f_oth_meetings f_meetings 0 0 180) hP)

def FX2_beginSending (x1 : Int32) (x2 : Int32) (x3 : Int32) (f_this : mF) : Int32 × mF :=
  (0, (upd (upd (upd (upd f_this 0 x1) 1 x2) 2 x3) 3 x3))
set_option maxRecDepth 20000 in
theorem tX2_beginSending {d : Nat} {B : mB} {v : mV} {w : mX} {Q : Option Int32 → mMH → Prop} {a : Nat} (hB : isLnk B a) (x1 : Int32) (x2 : Int32) (x3 : Int32) (f_this : mF) (hQ : Q (none) (mH B (mE v [(a, (FX2_beginSending x1 x2 x3 f_this).2)]) w)) : CQ (d + 1) 11 [.ref a, .int x1, .int x2, .int x3] (mH B (mE v [(a, f_this)]) w) Q := by
  have hn : ∀ (f_this : mF), mNd [(a, f_this)] := fun _ => by
    show List.Nodup _
    simp only [List.map_cons, List.map_nil, List.nodup_cons, List.mem_cons, List.not_mem_nil, or_false, not_or, not_false_eq_true, List.nodup_nil, and_true]
  obtain ⟨P, hPQ, hP⟩ : ∃ P : Int32 × mF → Prop, (∀ (q : Int32) (q0 : mF), P (q, q0) → Q (none) (mH B (mE v [(a, q0)]) w)) ∧ P (FX2_beginSending x1 x2 x3 f_this) := ⟨fun res => Q (none) (mH B (mE v [(a, res.2)]) w), fun _ _ h => h, hQ⟩
  refine r_begin mt_11 (by intro a ha; simp only [List.mem_cons, List.not_mem_nil, or_false] at ha; rcases ha with rfl | rfl | rfl | rfl <;> rfl) (Nat.le_of_ble_eq_true rfl) ?_
  rw [FX2_beginSending] at hP
  show RB _ _ _ _ [some (.ref a), some (.int x1), some (.int x2), some (.int x3)] [] _ _
  refine r_aload rfl ?_
  refine r_iload rfl ?_
  refine r_put (env' := [(a, (upd f_this 0 x1))]) 0 (hn _) rfl rfl hB ?_
  refine r_aload rfl ?_
  refine r_iload rfl ?_
  refine r_put (env' := [(a, (upd (upd f_this 0 x1) 1 x2))]) 0 (hn _) rfl rfl hB ?_
  refine r_aload rfl ?_
  refine r_iload rfl ?_
  refine r_put (env' := [(a, (upd (upd (upd f_this 0 x1) 1 x2) 2 x3))]) 0 (hn _) rfl rfl hB ?_
  refine r_aload rfl ?_
  refine r_iload rfl ?_
  refine r_put (env' := [(a, (upd (upd (upd (upd f_this 0 x1) 1 x2) 2 x3) 3 x3))]) 0 (hn _) rfl rfl hB ?_
  exact r_retv rfl (hPQ 0 (upd (upd (upd (upd f_this 0 x1) 1 x2) 2 x3) 3 x3) hP)

def FX2_endSending (f_this : mF) : Int32 × mF :=
  let u1 := FX2_beginSending (-1) 0 0 f_this; (0, u1.2)
set_option maxRecDepth 20000 in
theorem tX2_endSending {d : Nat} {B : mB} {v : mV} {w : mX} {Q : Option Int32 → mMH → Prop} {a : Nat} (hB : isLnk B a) (f_this : mF) (hQ : Q (none) (mH B (mE v [(a, (FX2_endSending f_this).2)]) w)) : CQ (d + 2) 12 [.ref a] (mH B (mE v [(a, f_this)]) w) Q := by
  have hn : ∀ (f_this : mF), mNd [(a, f_this)] := fun _ => by
    show List.Nodup _
    simp only [List.map_cons, List.map_nil, List.nodup_cons, List.mem_cons, List.not_mem_nil, or_false, not_or, not_false_eq_true, List.nodup_nil, and_true]
  obtain ⟨P, hPQ, hP⟩ : ∃ P : Int32 × mF → Prop, (∀ (q : Int32) (q0 : mF), P (q, q0) → Q (none) (mH B (mE v [(a, q0)]) w)) ∧ P (FX2_endSending f_this) := ⟨fun res => Q (none) (mH B (mE v [(a, res.2)]) w), fun _ _ h => h, hQ⟩
  refine r_begin mt_12 (by intro a ha; simp only [List.mem_cons, List.not_mem_nil, or_false] at ha; rcases ha with rfl <;> rfl) (Nat.le_of_ble_eq_true rfl) ?_
  rw [FX2_endSending] at hP
  show RB _ _ _ _ [some (.ref a)] [] _ _
  refine r_aload rfl ?_
  refine r_int ?_
  refine r_int ?_
  refine r_int ?_
  have k2 := fun (Q' : Option Int32 → mMH → Prop) hq => tX2_beginSending (d := d + 0) (B := B) (v := mE v [(a, f_this)]) (w := w) (Q := Q') hB (-1) 0 0 f_this hq
  generalize hg_u1 : FX2_beginSending (-1) 0 0 f_this = u1 at k2 hP
  try dsimp only at hP
  refine r_callV (st := []) (o := a) (as := [.int (-1), .int 0, .int 0]) (envc := [(a, f_this)]) (envc' := [(a, u1.2)]) (env' := [(a, u1.2)]) (rv := none) [0] (hn _) rfl rfl (Nat.le_of_ble_eq_true rfl) hB rfl rfl rfl k2 ?_
  show RB _ _ _ _ _ [] _ _
  exact r_retv rfl (hPQ 0 u1.2 hP)

def FX2_beginReceiving (x1 : Int32) (x2 : Int32) (x3 : Int32) (f_this : mF) : Int32 × mF :=
  (0, (upd (upd (upd f_this 4 x1) 5 x2) 6 x3))
set_option maxRecDepth 20000 in
theorem tX2_beginReceiving {d : Nat} {B : mB} {v : mV} {w : mX} {Q : Option Int32 → mMH → Prop} {a : Nat} (hB : isLnk B a) (x1 : Int32) (x2 : Int32) (x3 : Int32) (f_this : mF) (hQ : Q (none) (mH B (mE v [(a, (FX2_beginReceiving x1 x2 x3 f_this).2)]) w)) : CQ (d + 1) 13 [.ref a, .int x1, .int x2, .int x3] (mH B (mE v [(a, f_this)]) w) Q := by
  have hn : ∀ (f_this : mF), mNd [(a, f_this)] := fun _ => by
    show List.Nodup _
    simp only [List.map_cons, List.map_nil, List.nodup_cons, List.mem_cons, List.not_mem_nil, or_false, not_or, not_false_eq_true, List.nodup_nil, and_true]
  obtain ⟨P, hPQ, hP⟩ : ∃ P : Int32 × mF → Prop, (∀ (q : Int32) (q0 : mF), P (q, q0) → Q (none) (mH B (mE v [(a, q0)]) w)) ∧ P (FX2_beginReceiving x1 x2 x3 f_this) := ⟨fun res => Q (none) (mH B (mE v [(a, res.2)]) w), fun _ _ h => h, hQ⟩
  refine r_begin mt_13 (by intro a ha; simp only [List.mem_cons, List.not_mem_nil, or_false] at ha; rcases ha with rfl | rfl | rfl | rfl <;> rfl) (Nat.le_of_ble_eq_true rfl) ?_
  rw [FX2_beginReceiving] at hP
  show RB _ _ _ _ [some (.ref a), some (.int x1), some (.int x2), some (.int x3)] [] _ _
  refine r_aload rfl ?_
  refine r_iload rfl ?_
  refine r_put (env' := [(a, (upd f_this 4 x1))]) 0 (hn _) rfl rfl hB ?_
  refine r_aload rfl ?_
  refine r_iload rfl ?_
  refine r_put (env' := [(a, (upd (upd f_this 4 x1) 5 x2))]) 0 (hn _) rfl rfl hB ?_
  refine r_aload rfl ?_
  refine r_iload rfl ?_
  refine r_put (env' := [(a, (upd (upd (upd f_this 4 x1) 5 x2) 6 x3))]) 0 (hn _) rfl rfl hB ?_
  exact r_retv rfl (hPQ 0 (upd (upd (upd f_this 4 x1) 5 x2) 6 x3) hP)

def FX2_endReceiving (f_this : mF) : Int32 × mF :=
  let u1 := FX2_beginReceiving (-1) 0 0 f_this; (0, u1.2)
set_option maxRecDepth 20000 in
theorem tX2_endReceiving {d : Nat} {B : mB} {v : mV} {w : mX} {Q : Option Int32 → mMH → Prop} {a : Nat} (hB : isLnk B a) (f_this : mF) (hQ : Q (none) (mH B (mE v [(a, (FX2_endReceiving f_this).2)]) w)) : CQ (d + 2) 14 [.ref a] (mH B (mE v [(a, f_this)]) w) Q := by
  have hn : ∀ (f_this : mF), mNd [(a, f_this)] := fun _ => by
    show List.Nodup _
    simp only [List.map_cons, List.map_nil, List.nodup_cons, List.mem_cons, List.not_mem_nil, or_false, not_or, not_false_eq_true, List.nodup_nil, and_true]
  obtain ⟨P, hPQ, hP⟩ : ∃ P : Int32 × mF → Prop, (∀ (q : Int32) (q0 : mF), P (q, q0) → Q (none) (mH B (mE v [(a, q0)]) w)) ∧ P (FX2_endReceiving f_this) := ⟨fun res => Q (none) (mH B (mE v [(a, res.2)]) w), fun _ _ h => h, hQ⟩
  refine r_begin mt_14 (by intro a ha; simp only [List.mem_cons, List.not_mem_nil, or_false] at ha; rcases ha with rfl <;> rfl) (Nat.le_of_ble_eq_true rfl) ?_
  rw [FX2_endReceiving] at hP
  show RB _ _ _ _ [some (.ref a)] [] _ _
  refine r_aload rfl ?_
  refine r_int ?_
  refine r_int ?_
  refine r_int ?_
  have k2 := fun (Q' : Option Int32 → mMH → Prop) hq => tX2_beginReceiving (d := d + 0) (B := B) (v := mE v [(a, f_this)]) (w := w) (Q := Q') hB (-1) 0 0 f_this hq
  generalize hg_u1 : FX2_beginReceiving (-1) 0 0 f_this = u1 at k2 hP
  try dsimp only at hP
  refine r_callV (st := []) (o := a) (as := [.int (-1), .int 0, .int 0]) (envc := [(a, f_this)]) (envc' := [(a, u1.2)]) (env' := [(a, u1.2)]) (rv := none) [0] (hn _) rfl rfl (Nat.le_of_ble_eq_true rfl) hB rfl rfl rfl k2 ?_
  show RB _ _ _ _ _ [] _ _
  exact r_retv rfl (hPQ 0 u1.2 hP)

def FX2_empty (f_this : mF) : Int32 × mF :=
  let u1 := FX2_endSending f_this; let u2 := FX2_endReceiving u1.2; (0, (upd (upd (upd u2.2 7 0) 8 0) 9 (-1)))
set_option maxRecDepth 20000 in
theorem tX2_empty {d : Nat} {B : mB} {v : mV} {w : mX} {Q : Option Int32 → mMH → Prop} {a : Nat} (hB : isLnk B a) (f_this : mF) (hQ : Q (none) (mH B (mE v [(a, (FX2_empty f_this).2)]) w)) : CQ (d + 3) 10 [.ref a] (mH B (mE v [(a, f_this)]) w) Q := by
  have hn : ∀ (f_this : mF), mNd [(a, f_this)] := fun _ => by
    show List.Nodup _
    simp only [List.map_cons, List.map_nil, List.nodup_cons, List.mem_cons, List.not_mem_nil, or_false, not_or, not_false_eq_true, List.nodup_nil, and_true]
  obtain ⟨P, hPQ, hP⟩ : ∃ P : Int32 × mF → Prop, (∀ (q : Int32) (q0 : mF), P (q, q0) → Q (none) (mH B (mE v [(a, q0)]) w)) ∧ P (FX2_empty f_this) := ⟨fun res => Q (none) (mH B (mE v [(a, res.2)]) w), fun _ _ h => h, hQ⟩
  refine r_begin mt_10 (by intro a ha; simp only [List.mem_cons, List.not_mem_nil, or_false] at ha; rcases ha with rfl <;> rfl) (Nat.le_of_ble_eq_true rfl) ?_
  rw [FX2_empty] at hP
  show RB _ _ _ _ [some (.ref a)] [] _ _
  refine r_aload rfl ?_
  have k4 := fun (Q' : Option Int32 → mMH → Prop) hq => tX2_endSending (d := d + 0) (B := B) (v := mE v [(a, f_this)]) (w := w) (Q := Q') hB f_this hq
  generalize hg_u1 : FX2_endSending f_this = u1 at k4 hP
  try dsimp only at hP
  refine r_callV (st := []) (o := a) (as := []) (envc := [(a, f_this)]) (envc' := [(a, u1.2)]) (env' := [(a, u1.2)]) (rv := none) [0] (hn _) rfl rfl (Nat.le_of_ble_eq_true rfl) hB rfl rfl rfl k4 ?_
  show RB _ _ _ _ _ [] _ _
  refine r_aload rfl ?_
  have k3 := fun (Q' : Option Int32 → mMH → Prop) hq => tX2_endReceiving (d := d + 0) (B := B) (v := mE v [(a, u1.2)]) (w := w) (Q := Q') hB u1.2 hq
  generalize hg_u2 : FX2_endReceiving u1.2 = u2 at k3 hP
  try dsimp only at hP
  refine r_callV (st := []) (o := a) (as := []) (envc := [(a, u1.2)]) (envc' := [(a, u2.2)]) (env' := [(a, u2.2)]) (rv := none) [0] (hn _) rfl rfl (Nat.le_of_ble_eq_true rfl) hB rfl rfl rfl k3 ?_
  show RB _ _ _ _ _ [] _ _
  refine r_aload rfl ?_
  refine r_int ?_
  refine r_putz (env' := [(a, (upd u2.2 7 0))]) 0 (hn _) rfl rfl hB (by decide) ?_
  refine r_aload rfl ?_
  refine r_int ?_
  refine r_put (env' := [(a, (upd (upd u2.2 7 0) 8 0))]) 0 (hn _) rfl rfl hB ?_
  refine r_aload rfl ?_
  refine r_int ?_
  refine r_put (env' := [(a, (upd (upd (upd u2.2 7 0) 8 0) 9 (-1)))]) 0 (hn _) rfl rfl hB ?_
  exact r_retv rfl (hPQ 0 (upd (upd (upd u2.2 7 0) 8 0) 9 (-1)) hP)

def FX2_hasToSend (f_this : mF) : Int32 :=
  if (f_this 0) = (-1) then (0) else (if (f_this 2) ≤ 0 then (0) else (1))
set_option maxRecDepth 20000 in
theorem tX2_hasToSend {d : Nat} {B : mB} {v : mV} {w : mX} {Q : Option Int32 → mMH → Prop} {a : Nat} (hB : isLnk B a) (f_this : mF) (hQ : Q (some (FX2_hasToSend f_this)) (mH B (mE v [(a, f_this)]) w)) : CQ (d + 1) 15 [.ref a] (mH B (mE v [(a, f_this)]) w) Q := by
  have hn : ∀ (f_this : mF), mNd [(a, f_this)] := fun _ => by
    show List.Nodup _
    simp only [List.map_cons, List.map_nil, List.nodup_cons, List.mem_cons, List.not_mem_nil, or_false, not_or, not_false_eq_true, List.nodup_nil, and_true]
  obtain ⟨P, hPQ, hP⟩ : ∃ P : Int32 → Prop, (∀ (q : Int32), P q → Q (some q) (mH B (mE v [(a, f_this)]) w)) ∧ P (FX2_hasToSend f_this) := ⟨fun res => Q (some res) (mH B (mE v [(a, f_this)]) w), fun _ h => h, hQ⟩
  refine r_begin mt_15 (by intro a ha; simp only [List.mem_cons, List.not_mem_nil, or_false] at ha; rcases ha with rfl <;> rfl) (Nat.le_of_ble_eq_true rfl) ?_
  rw [FX2_hasToSend] at hP
  show RB _ _ _ _ [some (.ref a)] [] _ _
  refine r_aload rfl ?_
  refine r_get (x := f_this 0) 0 (hn _) rfl hB (by decide) rfl ?_
  refine r_int ?_
  refine r_icmp (fun c1 : (f_this 0) = (-1) => ?_) (fun c1 : ¬ ((f_this 0) = (-1)) => ?_)
  · rw [if_pos c1] at hP
    refine r_int ?_
    refine r_fall ?_
    exact r_ret rfl rfl (hPQ 0 hP)
  · rw [if_neg c1] at hP
    refine r_aload rfl ?_
    refine r_get (x := f_this 2) 0 (hn _) rfl hB (by decide) rfl ?_
    refine r_if (fun c2 : (f_this 2) ≤ 0 => ?_) (fun c2 : ¬ ((f_this 2) ≤ 0) => ?_)
    · rw [if_pos c2] at hP
      refine r_int ?_
      refine r_fall ?_
      exact r_ret rfl rfl (hPQ 0 hP)
    · rw [if_neg c2] at hP
      refine r_int ?_
      refine r_goto ?_
      exact r_ret rfl rfl (hPQ 1 hP)

def FX2_canReceive (f_this : mF) : Int32 :=
  if (f_this 7) = 0 then (0) else (if (f_this 4) = (-1) then (0) else (1))
set_option maxRecDepth 20000 in
theorem tX2_canReceive {d : Nat} {B : mB} {v : mV} {w : mX} {Q : Option Int32 → mMH → Prop} {a : Nat} (hB : isLnk B a) (f_this : mF) (hQ : Q (some (FX2_canReceive f_this)) (mH B (mE v [(a, f_this)]) w)) : CQ (d + 1) 16 [.ref a] (mH B (mE v [(a, f_this)]) w) Q := by
  have hn : ∀ (f_this : mF), mNd [(a, f_this)] := fun _ => by
    show List.Nodup _
    simp only [List.map_cons, List.map_nil, List.nodup_cons, List.mem_cons, List.not_mem_nil, or_false, not_or, not_false_eq_true, List.nodup_nil, and_true]
  obtain ⟨P, hPQ, hP⟩ : ∃ P : Int32 → Prop, (∀ (q : Int32), P q → Q (some q) (mH B (mE v [(a, f_this)]) w)) ∧ P (FX2_canReceive f_this) := ⟨fun res => Q (some res) (mH B (mE v [(a, f_this)]) w), fun _ h => h, hQ⟩
  refine r_begin mt_16 (by intro a ha; simp only [List.mem_cons, List.not_mem_nil, or_false] at ha; rcases ha with rfl <;> rfl) (Nat.le_of_ble_eq_true rfl) ?_
  rw [FX2_canReceive] at hP
  show RB _ _ _ _ [some (.ref a)] [] _ _
  refine r_aload rfl ?_
  refine r_get (x := f_this 7) 0 (hn _) rfl hB (by decide) rfl ?_
  refine r_if (fun c1 : (f_this 7) = 0 => ?_) (fun c1 : ¬ ((f_this 7) = 0) => ?_)
  · rw [if_pos c1] at hP
    refine r_int ?_
    refine r_fall ?_
    exact r_ret rfl rfl (hPQ 0 hP)
  · rw [if_neg c1] at hP
    refine r_aload rfl ?_
    refine r_get (x := f_this 4) 0 (hn _) rfl hB (by decide) rfl ?_
    refine r_int ?_
    refine r_icmp (fun c2 : (f_this 4) = (-1) => ?_) (fun c2 : ¬ ((f_this 4) = (-1)) => ?_)
    · rw [if_pos c2] at hP
      refine r_int ?_
      refine r_fall ?_
      exact r_ret rfl rfl (hPQ 0 hP)
    · rw [if_neg c2] at hP
      refine r_int ?_
      refine r_goto ?_
      exact r_ret rfl rfl (hPQ 1 hP)

def FX2_tell (x1 : Int32) (f_this : mF) : Int32 :=
  if x1 = 0 then ((f_this 0)) else (if x1 = 1 then ((f_this 2)) else (if x1 = 2 then ((f_this 4)) else (if x1 = 3 then ((f_this 6)) else (if x1 = 4 then (if (f_this 7) = 0 then (0) else (1)) else (if x1 = 5 then (if (f_this 7) = 0 then (0) else ((f_this 8))) else (if x1 = 6 then ((f_this 9)) else ((-1))))))))
set_option maxRecDepth 20000 in
theorem tX2_tell {d : Nat} {B : mB} {v : mV} {w : mX} {Q : Option Int32 → mMH → Prop} {a : Nat} (hB : isLnk B a) (x1 : Int32) (f_this : mF) (hQ : Q (some (FX2_tell x1 f_this)) (mH B (mE v [(a, f_this)]) w)) : CQ (d + 1) 17 [.ref a, .int x1] (mH B (mE v [(a, f_this)]) w) Q := by
  have hn : ∀ (f_this : mF), mNd [(a, f_this)] := fun _ => by
    show List.Nodup _
    simp only [List.map_cons, List.map_nil, List.nodup_cons, List.mem_cons, List.not_mem_nil, or_false, not_or, not_false_eq_true, List.nodup_nil, and_true]
  obtain ⟨P, hPQ, hP⟩ : ∃ P : Int32 → Prop, (∀ (q : Int32), P q → Q (some q) (mH B (mE v [(a, f_this)]) w)) ∧ P (FX2_tell x1 f_this) := ⟨fun res => Q (some res) (mH B (mE v [(a, f_this)]) w), fun _ h => h, hQ⟩
  refine r_begin mt_17 (by intro a ha; simp only [List.mem_cons, List.not_mem_nil, or_false] at ha; rcases ha with rfl | rfl <;> rfl) (Nat.le_of_ble_eq_true rfl) ?_
  rw [FX2_tell] at hP
  show RB _ _ _ _ [some (.ref a), some (.int x1)] [] _ _
  refine r_iload rfl ?_
  by_cases c3 : x1 = 0
  · rw [if_pos c3] at hP
    refine r_tswAt (k := 0) (b := 1) rfl (by rw [c3]; decide) ?_
    refine r_aload rfl ?_
    refine r_get (x := f_this 0) 0 (hn _) rfl hB (by decide) rfl ?_
    exact r_ret rfl rfl (hPQ (f_this 0) hP)
  · rw [if_neg c3] at hP
    by_cases c4 : x1 = 1
    · rw [if_pos c4] at hP
      refine r_tswAt (k := 1) (b := 2) rfl (by rw [c4]; decide) ?_
      refine r_aload rfl ?_
      refine r_get (x := f_this 2) 0 (hn _) rfl hB (by decide) rfl ?_
      exact r_ret rfl rfl (hPQ (f_this 2) hP)
    · rw [if_neg c4] at hP
      by_cases c5 : x1 = 2
      · rw [if_pos c5] at hP
        refine r_tswAt (k := 2) (b := 3) rfl (by rw [c5]; decide) ?_
        refine r_aload rfl ?_
        refine r_get (x := f_this 4) 0 (hn _) rfl hB (by decide) rfl ?_
        exact r_ret rfl rfl (hPQ (f_this 4) hP)
      · rw [if_neg c5] at hP
        by_cases c6 : x1 = 3
        · rw [if_pos c6] at hP
          refine r_tswAt (k := 3) (b := 4) rfl (by rw [c6]; decide) ?_
          refine r_aload rfl ?_
          refine r_get (x := f_this 6) 0 (hn _) rfl hB (by decide) rfl ?_
          exact r_ret rfl rfl (hPQ (f_this 6) hP)
        · rw [if_neg c6] at hP
          by_cases c7 : x1 = 4
          · rw [if_pos c7] at hP
            refine r_tswAt (k := 4) (b := 5) rfl (by rw [c7]; decide) ?_
            refine r_aload rfl ?_
            refine r_get (x := f_this 7) 0 (hn _) rfl hB (by decide) rfl ?_
            refine r_if (fun c1 : (f_this 7) = 0 => ?_) (fun c1 : ¬ ((f_this 7) = 0) => ?_)
            · rw [if_pos c1] at hP
              refine r_int ?_
              refine r_fall ?_
              exact r_ret rfl rfl (hPQ 0 hP)
            · rw [if_neg c1] at hP
              refine r_int ?_
              refine r_goto ?_
              exact r_ret rfl rfl (hPQ 1 hP)
          · rw [if_neg c7] at hP
            by_cases c8 : x1 = 5
            · rw [if_pos c8] at hP
              refine r_tswAt (k := 5) (b := 8) rfl (by rw [c8]; decide) ?_
              refine r_aload rfl ?_
              refine r_get (x := f_this 7) 0 (hn _) rfl hB (by decide) rfl ?_
              refine r_if (fun c2 : (f_this 7) = 0 => ?_) (fun c2 : ¬ ((f_this 7) = 0) => ?_)
              · rw [if_pos c2] at hP
                refine r_int ?_
                refine r_fall ?_
                exact r_ret rfl rfl (hPQ 0 hP)
              · rw [if_neg c2] at hP
                refine r_aload rfl ?_
                refine r_get (x := f_this 8) 0 (hn _) rfl hB (by decide) rfl ?_
                refine r_goto ?_
                exact r_ret rfl rfl (hPQ (f_this 8) hP)
            · rw [if_neg c8] at hP
              by_cases c9 : x1 = 6
              · rw [if_pos c9] at hP
                refine r_tswAt (k := 6) (b := 11) rfl (by rw [c9]; decide) ?_
                refine r_aload rfl ?_
                refine r_get (x := f_this 9) 0 (hn _) rfl hB (by decide) rfl ?_
                exact r_ret rfl rfl (hPQ (f_this 9) hP)
              · rw [if_neg c9] at hP
                refine r_tswD (fun k hk => ?_) ?_
                · have hk : k < 7 := hk
                  rcases (show k = 0 ∨ k = 1 ∨ k = 2 ∨ k = 3 ∨ k = 4 ∨ k = 5 ∨ k = 6 by omega) with rfl | rfl | rfl | rfl | rfl | rfl | rfl
                  · rw [show (0 : Int32) + nI 0 = 0 by decide +kernel]; exact c3
                  · rw [show (0 : Int32) + nI 1 = 1 by decide +kernel]; exact c4
                  · rw [show (0 : Int32) + nI 2 = 2 by decide +kernel]; exact c5
                  · rw [show (0 : Int32) + nI 3 = 3 by decide +kernel]; exact c6
                  · rw [show (0 : Int32) + nI 4 = 4 by decide +kernel]; exact c7
                  · rw [show (0 : Int32) + nI 5 = 5 by decide +kernel]; exact c8
                  · rw [show (0 : Int32) + nI 6 = 6 by decide +kernel]; exact c9
                refine r_int ?_
                exact r_ret rfl rfl (hPQ (-1) hP)

def FX2_copy (f_this : mF) (f_oth : mF) : Int32 × mF :=
  let u1 := FX2_beginSending (f_oth 0) (f_oth 1) (f_oth 2) f_this; let u2 := FX2_beginReceiving (f_oth 4) (f_oth 5) (f_oth 6) (upd u1.2 3 (f_oth 3)); (0, (upd (upd (upd u2.2 7 (f_oth 7)) 8 (f_oth 8)) 9 (f_oth 9)))
def OX2_copy (f_this : mF) (f_oth : mF) : Prop :=
  (let u1 := FX2_beginSending (f_oth 0) (f_oth 1) (f_oth 2) f_this; (let u2 := FX2_beginReceiving (f_oth 4) (f_oth 5) (f_oth 6) (upd u1.2 3 (f_oth 3)); ((f_oth 7) = 0 ∨ (f_oth 7) = 1)))
set_option maxRecDepth 20000 in
theorem tX2_copy {d : Nat} {B : mB} {v : mV} {w : mX} {Q : Option Int32 → mMH → Prop} {a a2 : Nat} (hB : isLnk B a) (hB2 : isLnk B a2) (hne : a < a2 ∨ a2 < a) (f_this : mF) (f_oth : mF) (hO : OX2_copy f_this f_oth) (hQ : Q (none) (mH B (mE v [(a, (FX2_copy f_this f_oth).2), (a2, f_oth)]) w)) : CQ (d + 2) 18 [.ref a, .ref a2] (mH B (mE v [(a, f_this), (a2, f_oth)]) w) Q := by
  have hn : ∀ (f_this : mF) (f_oth : mF), mNd [(a, f_this), (a2, f_oth)] := fun _ _ => by
    show List.Nodup _
    simp only [List.map_cons, List.map_nil, List.nodup_cons, List.mem_cons, List.not_mem_nil, or_false, not_or, not_false_eq_true, List.nodup_nil, and_true]
    omega
  obtain ⟨P, hPQ, hP⟩ : ∃ P : Int32 × mF → Prop, (∀ (q : Int32) (q0 : mF), P (q, q0) → Q (none) (mH B (mE v [(a, q0), (a2, f_oth)]) w)) ∧ P (FX2_copy f_this f_oth) := ⟨fun res => Q (none) (mH B (mE v [(a, res.2), (a2, f_oth)]) w), fun _ _ h => h, hQ⟩
  refine r_begin mt_18 (by intro a ha; simp only [List.mem_cons, List.not_mem_nil, or_false] at ha; rcases ha with rfl | rfl <;> rfl) (Nat.le_of_ble_eq_true rfl) ?_
  rw [FX2_copy] at hP
  rw [OX2_copy] at hO
  show RB _ _ _ _ [some (.ref a), some (.ref a2)] [] _ _
  refine r_aload rfl ?_
  refine r_aload rfl ?_
  refine r_get (x := f_oth 0) 1 (hn _ _) rfl hB2 (by decide) rfl ?_
  refine r_aload rfl ?_
  refine r_get (x := f_oth 1) 1 (hn _ _) rfl hB2 (by decide) rfl ?_
  refine r_aload rfl ?_
  refine r_get (x := f_oth 2) 1 (hn _ _) rfl hB2 (by decide) rfl ?_
  have k5 := fun (Q' : Option Int32 → mMH → Prop) hq => tX2_beginSending (d := d + 0) (B := B) (v := mE v [(a, f_this), (a2, f_oth)]) (w := w) (Q := Q') hB (f_oth 0) (f_oth 1) (f_oth 2) f_this hq
  generalize hg_u1 : FX2_beginSending (f_oth 0) (f_oth 1) (f_oth 2) f_this = u1 at k5 hP hO
  try dsimp only at hP hO
  refine r_callV (st := []) (o := a) (as := [.int (f_oth 0), .int (f_oth 1), .int (f_oth 2)]) (envc := [(a, f_this)]) (envc' := [(a, u1.2)]) (env' := [(a, u1.2), (a2, f_oth)]) (rv := none) [0] (hn _ _) rfl rfl (Nat.le_of_ble_eq_true rfl) hB rfl rfl rfl k5 ?_
  show RB _ _ _ _ _ [] _ _
  refine r_aload rfl ?_
  refine r_aload rfl ?_
  refine r_get (x := f_oth 3) 1 (hn _ _) rfl hB2 (by decide) rfl ?_
  refine r_put (env' := [(a, (upd u1.2 3 (f_oth 3))), (a2, f_oth)]) 0 (hn _ _) rfl rfl hB ?_
  refine r_aload rfl ?_
  refine r_aload rfl ?_
  refine r_get (x := f_oth 4) 1 (hn _ _) rfl hB2 (by decide) rfl ?_
  refine r_aload rfl ?_
  refine r_get (x := f_oth 5) 1 (hn _ _) rfl hB2 (by decide) rfl ?_
  refine r_aload rfl ?_
  refine r_get (x := f_oth 6) 1 (hn _ _) rfl hB2 (by decide) rfl ?_
  have k4 := fun (Q' : Option Int32 → mMH → Prop) hq => tX2_beginReceiving (d := d + 0) (B := B) (v := mE v [(a, (upd u1.2 3 (f_oth 3))), (a2, f_oth)]) (w := w) (Q := Q') hB (f_oth 4) (f_oth 5) (f_oth 6) (upd u1.2 3 (f_oth 3)) hq
  generalize hg_u2 : FX2_beginReceiving (f_oth 4) (f_oth 5) (f_oth 6) (upd u1.2 3 (f_oth 3)) = u2 at k4 hP hO
  try dsimp only at hP hO
  refine r_callV (st := []) (o := a) (as := [.int (f_oth 4), .int (f_oth 5), .int (f_oth 6)]) (envc := [(a, (upd u1.2 3 (f_oth 3)))]) (envc' := [(a, u2.2)]) (env' := [(a, u2.2), (a2, f_oth)]) (rv := none) [0] (hn _ _) rfl rfl (Nat.le_of_ble_eq_true rfl) hB rfl rfl rfl k4 ?_
  show RB _ _ _ _ _ [] _ _
  refine r_aload rfl ?_
  refine r_aload rfl ?_
  refine r_get (x := f_oth 7) 1 (hn _ _) rfl hB2 (by decide) rfl ?_
  have h3 := hO
  refine r_putz (env' := [(a, (upd u2.2 7 (f_oth 7))), (a2, f_oth)]) 0 (hn _ _) rfl rfl hB h3 ?_
  refine r_aload rfl ?_
  refine r_aload rfl ?_
  refine r_get (x := f_oth 8) 1 (hn _ _) rfl hB2 (by decide) rfl ?_
  refine r_put (env' := [(a, (upd (upd u2.2 7 (f_oth 7)) 8 (f_oth 8))), (a2, f_oth)]) 0 (hn _ _) rfl rfl hB ?_
  refine r_aload rfl ?_
  refine r_aload rfl ?_
  refine r_get (x := f_oth 9) 1 (hn _ _) rfl hB2 (by decide) rfl ?_
  refine r_put (env' := [(a, (upd (upd (upd u2.2 7 (f_oth 7)) 8 (f_oth 8)) 9 (f_oth 9))), (a2, f_oth)]) 0 (hn _ _) rfl rfl hB ?_
  exact r_retv rfl (hPQ 0 (upd (upd (upd u2.2 7 (f_oth 7)) 8 (f_oth 8)) 9 (f_oth 9)) hP)

def FX6_isFull (f_this : mF) : Int32 :=
  if (f_this 0) < 12 then (0) else (1)
set_option maxRecDepth 20000 in
theorem tX6_isFull {d : Nat} {B : mB} {v : mV} {w : mX} {Q : Option Int32 → mMH → Prop} {t : Nat} (hB : isTim B t) (f_this : mF) (hQ : Q (some (FX6_isFull f_this)) (mH B (mE v [(t, f_this)]) w)) : CQ (d + 1) 101 [.ref t] (mH B (mE v [(t, f_this)]) w) Q := by
  have hn : ∀ (f_this : mF), mNd [(t, f_this)] := fun _ => by
    show List.Nodup _
    simp only [List.map_cons, List.map_nil, List.nodup_cons, List.mem_cons, List.not_mem_nil, or_false, not_or, not_false_eq_true, List.nodup_nil, and_true]
  obtain ⟨P, hPQ, hP⟩ : ∃ P : Int32 → Prop, (∀ (q : Int32), P q → Q (some q) (mH B (mE v [(t, f_this)]) w)) ∧ P (FX6_isFull f_this) := ⟨fun res => Q (some res) (mH B (mE v [(t, f_this)]) w), fun _ h => h, hQ⟩
  refine r_begin mt_101 (by intro a ha; simp only [List.mem_cons, List.not_mem_nil, or_false] at ha; rcases ha with rfl <;> rfl) (Nat.le_of_ble_eq_true rfl) ?_
  rw [FX6_isFull] at hP
  show RB _ _ _ _ [some (.ref t)] [] _ _
  refine r_aload rfl ?_
  refine r_get (x := f_this 0) 0 (hn _) rfl hB.1 (by decide) rfl ?_
  refine r_int ?_
  refine r_icmp (fun c1 : (f_this 0) < 12 => ?_) (fun c1 : ¬ ((f_this 0) < 12) => ?_)
  · rw [if_pos c1] at hP
    refine r_int ?_
    refine r_fall ?_
    exact r_ret rfl rfl (hPQ 0 hP)
  · rw [if_neg c1] at hP
    refine r_int ?_
    refine r_goto ?_
    exact r_ret rfl rfl (hPQ 1 hP)

def FX6_put_b2 : Nat → Int32 → Int32 → Int32 → Int32 → Int32 → mF → mF → Int32
  | 0, _, _, _, _, y5, _, _ => y5
  | n + 1, y1, y2, y3, y4, y5, f_this, f_process =>
    if (f_this 0) ≤ y5 then (y5) else (if y4 ≤ ((f_process ((y5 : Int32).toNatClampNeg)) &&& 1) then (y5) else (FX6_put_b2 n y1 y2 y3 y4 (y5 + 1) f_this f_process))
def OX6_put_b2 : Nat → Int32 → Int32 → Int32 → Int32 → Int32 → mF → mF → Prop
  | 0, _, _, _, _, _, _, _ => False
  | n + 1, y1, y2, y3, y4, y5, f_this, f_process =>
    ((f_this 0) ≤ y5 → True) ∧ (¬ ((f_this 0) ≤ y5) → (vp_in y5 12 ∧ ((y4 ≤ ((f_process ((y5 : Int32).toNatClampNeg)) &&& 1) → True) ∧ (¬ (y4 ≤ ((f_process ((y5 : Int32).toNatClampNeg)) &&& 1)) → (OX6_put_b2 n y1 y2 y3 y4 (y5 + 1) f_this f_process)))))
set_option maxRecDepth 20000 in
theorem tX6_put_b2 {d : Nat} {B : mB} {v : mV} {w : mX} {Q : Option Int32 → mMH → Prop} {t : Nat} (hB : isTim B t) (y1 : Int32) (y2 : Int32) (y3 : Int32) (y4 : Int32) {u : Int32} {f_this : mF} {f_process : mF} {f_time : mF} {f_isBy : mF} (hK : ∀ (e6 : Option Value) (he6 : mC1 e6 = true), RJ (d + 1) kX6_put (none) 3 [some (.ref t), some (.int y1), some (.int y2), some (.int y3), some (.int y4), some (.int u), e6] [] (mH B (mE v [(t, f_this), (t + 1, f_process), (t + 2, f_time), (t + 3, f_isBy)]) w) Q) : ∀ (n : Nat) (y5 : Int32) (e6 : Option Value) (he6 : mC1 e6 = true), OX6_put_b2 n y1 y2 y3 y4 y5 f_this f_process → FX6_put_b2 n y1 y2 y3 y4 y5 f_this f_process = u → RJ (d + 1) kX6_put (none) 2 [some (.ref t), some (.int y1), some (.int y2), some (.int y3), some (.int y4), some (.int y5), e6] [] (mH B (mE v [(t, f_this), (t + 1, f_process), (t + 2, f_time), (t + 3, f_isBy)]) w) Q := by
  intro n
  induction n with
  | zero => exact fun _ _ _ hO => hO.elim
  | succ n ih2 =>
    intro y5 e6 he6 hO hP
    rw [FX6_put_b2] at hP
    rw [OX6_put_b2] at hO
    have hn : ∀ (f_this : mF) (f_process : mF) (f_time : mF) (f_isBy : mF), mNd [(t, f_this), (t + 1, f_process), (t + 2, f_time), (t + 3, f_isBy)] := fun _ _ _ _ => by
      show List.Nodup _
      simp only [List.map_cons, List.map_nil, List.nodup_cons, List.mem_cons, List.not_mem_nil, or_false, not_or, not_false_eq_true, List.nodup_nil, and_true]
      omega
    show RB _ _ _ _ [some (.ref t), some (.int y1), some (.int y2), some (.int y3), some (.int y4), some (.int y5), e6] [] _ _
    refine r_iload rfl ?_
    refine r_aload rfl ?_
    refine r_get (x := f_this 0) 0 (hn _ _ _ _) rfl hB.1 (by decide) rfl ?_
    refine r_icmp (fun c3 : (f_this 0) ≤ y5 => ?_) (fun c3 : ¬ ((f_this 0) ≤ y5) => ?_)
    · rw [if_pos c3] at hP
      have hO := hO.1 c3
      subst hP
      exact hK e6 he6
    · rw [if_neg c3] at hP
      have hO := hO.2 c3
      refine r_aload rfl ?_
      refine r_getr (q := t + 1) hB.1 hB.2.2.2.2.1 ?_
      refine r_iload rfl ?_
      obtain ⟨h4, hO⟩ := hO
      refine r_ald (x := f_process ((y5 : Int32).toNatClampNeg)) 1 ((y5 : Int32).toNatClampNeg) (hn _ _ _ _) rfl hB.2.1 (by decide) rfl h4 rfl rfl ?_
      refine r_int ?_
      refine r_iand ?_
      refine r_iload rfl ?_
      refine r_icmp (fun c5 : y4 ≤ ((f_process ((y5 : Int32).toNatClampNeg)) &&& 1) => ?_) (fun c5 : ¬ (y4 ≤ ((f_process ((y5 : Int32).toNatClampNeg)) &&& 1)) => ?_)
      · rw [if_pos c5] at hP
        have hO := hO.1 c5
        subst hP
        exact hK e6 he6
      · rw [if_neg c5] at hP
        have hO := hO.2 c5
        refine r_iinc (L' := [some (.ref t), some (.int y1), some (.int y2), some (.int y3), some (.int y4), some (.int (y5 + 1)), e6]) rfl rfl rfl ?_
        refine r_goto ?_
        exact ih2 (y5 + 1) e6 he6 hO hP
def FX6_put_b3 : Nat → Int32 → Int32 → Int32 → Int32 → Int32 → mF → mF → mF → Int32
  | 0, _, _, _, _, y5, _, _, _ => y5
  | n + 1, y1, y2, y3, y4, y5, f_this, f_process, f_time =>
    if (f_this 0) ≤ y5 then (y5) else (if ((f_process ((y5 : Int32).toNatClampNeg)) &&& 1) = y4 then (let u13 := FX9_isAfter (f_time ((y5 : Int32).toNatClampNeg)) y2; if u13 = 0 then (FX6_put_b3 n y1 y2 y3 y4 (y5 + 1) f_this f_process f_time) else (y5)) else (y5))
def OX6_put_b3 : Nat → Int32 → Int32 → Int32 → Int32 → Int32 → mF → mF → mF → Prop
  | 0, _, _, _, _, _, _, _, _ => False
  | n + 1, y1, y2, y3, y4, y5, f_this, f_process, f_time =>
    ((f_this 0) ≤ y5 → True) ∧ (¬ ((f_this 0) ≤ y5) → (vp_in y5 12 ∧ ((((f_process ((y5 : Int32).toNatClampNeg)) &&& 1) = y4 → (vp_in y5 12 ∧ ((let u13 := FX9_isAfter (f_time ((y5 : Int32).toNatClampNeg)) y2; (u13 = 0 → (OX6_put_b3 n y1 y2 y3 y4 (y5 + 1) f_this f_process f_time)) ∧ (¬ (u13 = 0) → True))))) ∧ (¬ (((f_process ((y5 : Int32).toNatClampNeg)) &&& 1) = y4) → True))))
set_option maxRecDepth 20000 in
theorem tX6_put_b3 {d : Nat} {B : mB} {v : mV} {w : mX} {Q : Option Int32 → mMH → Prop} {t : Nat} (hB : isTim B t) (y1 : Int32) (y2 : Int32) (y3 : Int32) (y4 : Int32) {u : Int32} {f_this : mF} {f_process : mF} {f_time : mF} {f_isBy : mF} (hK : ∀ (e4 : Option Value) (he4 : mC1 e4 = true) (e6 : Option Value) (he6 : mC1 e6 = true), RJ (d + 1) kX6_put (none) 4 [some (.ref t), some (.int y1), some (.int y2), some (.int y3), e4, some (.int u), e6] [] (mH B (mE v [(t, f_this), (t + 1, f_process), (t + 2, f_time), (t + 3, f_isBy)]) w) Q) : ∀ (n : Nat) (y5 : Int32) (e6 : Option Value) (he6 : mC1 e6 = true), OX6_put_b3 n y1 y2 y3 y4 y5 f_this f_process f_time → FX6_put_b3 n y1 y2 y3 y4 y5 f_this f_process f_time = u → RJ (d + 1) kX6_put (none) 3 [some (.ref t), some (.int y1), some (.int y2), some (.int y3), some (.int y4), some (.int y5), e6] [] (mH B (mE v [(t, f_this), (t + 1, f_process), (t + 2, f_time), (t + 3, f_isBy)]) w) Q := by
  intro n
  induction n with
  | zero => exact fun _ _ _ hO => hO.elim
  | succ n ih3 =>
    intro y5 e6 he6 hO hP
    rw [FX6_put_b3] at hP
    rw [OX6_put_b3] at hO
    have hn : ∀ (f_this : mF) (f_process : mF) (f_time : mF) (f_isBy : mF), mNd [(t, f_this), (t + 1, f_process), (t + 2, f_time), (t + 3, f_isBy)] := fun _ _ _ _ => by
      show List.Nodup _
      simp only [List.map_cons, List.map_nil, List.nodup_cons, List.mem_cons, List.not_mem_nil, or_false, not_or, not_false_eq_true, List.nodup_nil, and_true]
      omega
    show RB _ _ _ _ [some (.ref t), some (.int y1), some (.int y2), some (.int y3), some (.int y4), some (.int y5), e6] [] _ _
    refine r_iload rfl ?_
    refine r_aload rfl ?_
    refine r_get (x := f_this 0) 0 (hn _ _ _ _) rfl hB.1 (by decide) rfl ?_
    refine r_icmp (fun c9 : (f_this 0) ≤ y5 => ?_) (fun c9 : ¬ ((f_this 0) ≤ y5) => ?_)
    · rw [if_pos c9] at hP
      have hO := hO.1 c9
      subst hP
      exact hK (some (.int y4)) rfl e6 he6
    · rw [if_neg c9] at hP
      have hO := hO.2 c9
      refine r_aload rfl ?_
      refine r_getr (q := t + 1) hB.1 hB.2.2.2.2.1 ?_
      refine r_iload rfl ?_
      obtain ⟨h10, hO⟩ := hO
      refine r_ald (x := f_process ((y5 : Int32).toNatClampNeg)) 1 ((y5 : Int32).toNatClampNeg) (hn _ _ _ _) rfl hB.2.1 (by decide) rfl h10 rfl rfl ?_
      refine r_int ?_
      refine r_iand ?_
      refine r_iload rfl ?_
      refine r_icmp1 (fun c11 : ((f_process ((y5 : Int32).toNatClampNeg)) &&& 1) = y4 => ?_) (fun c11 : ¬ (((f_process ((y5 : Int32).toNatClampNeg)) &&& 1) = y4) => ?_)
      · rw [if_pos c11] at hP
        have hO := hO.1 c11
        refine r_aload rfl ?_
        refine r_getr (q := t + 2) hB.1 hB.2.2.2.2.2.1 ?_
        refine r_iload rfl ?_
        obtain ⟨h12, hO⟩ := hO
        refine r_ald (x := f_time ((y5 : Int32).toNatClampNeg)) 2 ((y5 : Int32).toNatClampNeg) (hn _ _ _ _) rfl hB.2.2.1 (by decide) rfl h12 rfl rfl ?_
        refine r_iload rfl ?_
        have k15 := fun (Q' : Option Int32 → mMH → Prop) hq => tX9_isAfter (d := d + 0) (B := B) (v := mE v [(t, f_this), (t + 1, f_process), (t + 2, f_time), (t + 3, f_isBy)]) (w := w) (Q := Q') (f_time ((y5 : Int32).toNatClampNeg)) y2 hq
        generalize hg_u13 : FX9_isAfter (f_time ((y5 : Int32).toNatClampNeg)) y2 = u13 at k15 hP hO
        try dsimp only at hP hO
        refine r_callS (st := []) (as := [.int (f_time ((y5 : Int32).toNatClampNeg)), .int y2]) (envc := []) (envc' := []) (env' := [(t, f_this), (t + 1, f_process), (t + 2, f_time), (t + 3, f_isBy)]) (rv := some u13) [] (Or.inr rfl) (hn _ _ _ _) rfl rfl (Nat.le_of_ble_eq_true rfl) rfl rfl rfl k15 ?_
        show RB _ _ _ _ _ [.int u13] _ _
        refine r_if1 (fun c14 : u13 = 0 => ?_) (fun c14 : ¬ (u13 = 0) => ?_)
        · rw [if_pos c14] at hP
          have hO := hO.1 c14
          refine r_iinc (L' := [some (.ref t), some (.int y1), some (.int y2), some (.int y3), some (.int y4), some (.int (y5 + 1)), e6]) rfl rfl rfl ?_
          refine r_goto ?_
          exact ih3 (y5 + 1) e6 he6 hO hP
        · rw [if_neg c14] at hP
          have hO := hO.2 c14
          subst hP
          exact hK (some (.int y4)) rfl e6 he6
      · rw [if_neg c11] at hP
        have hO := hO.2 c11
        subst hP
        exact hK (some (.int y4)) rfl e6 he6
def FX6_put_b5 : Nat → Int32 → Int32 → Int32 → Int32 → Int32 → mF → mF → mF → mF × mF × mF
  | 0, _, _, _, _, _, f_process, f_time, f_isBy => (f_process, f_time, f_isBy)
  | n + 1, y1, y2, y3, y5, y6, f_process, f_time, f_isBy =>
    if y6 ≤ y5 then ((f_process, f_time, f_isBy)) else (let g23 := upd f_process ((y6 : Int32).toNatClampNeg) (f_process ((y6 - 1 : Int32).toNatClampNeg)); let g26 := upd f_time ((y6 : Int32).toNatClampNeg) (f_time ((y6 - 1 : Int32).toNatClampNeg)); let g29 := upd f_isBy ((y6 : Int32).toNatClampNeg) (mNr 22 (f_isBy ((y6 - 1 : Int32).toNatClampNeg))); FX6_put_b5 n y1 y2 y3 y5 (y6 + (-1)) g23 g26 g29)
def OX6_put_b5 : Nat → Int32 → Int32 → Int32 → Int32 → Int32 → mF → mF → mF → Prop
  | 0, _, _, _, _, _, _, _, _ => False
  | n + 1, y1, y2, y3, y5, y6, f_process, f_time, f_isBy =>
    (y6 ≤ y5 → True) ∧ (¬ (y6 ≤ y5) → (vp_in (y6 - 1) 12 ∧ (vp_in y6 12 ∧ (let g23 := upd f_process ((y6 : Int32).toNatClampNeg) (f_process ((y6 - 1 : Int32).toNatClampNeg)); vp_in (y6 - 1) 12 ∧ (vp_in y6 12 ∧ (let g26 := upd f_time ((y6 : Int32).toNatClampNeg) (f_time ((y6 - 1 : Int32).toNatClampNeg)); vp_in (y6 - 1) 12 ∧ (vp_in y6 12 ∧ (let g29 := upd f_isBy ((y6 : Int32).toNatClampNeg) (mNr 22 (f_isBy ((y6 - 1 : Int32).toNatClampNeg))); OX6_put_b5 n y1 y2 y3 y5 (y6 + (-1)) g23 g26 g29))))))))
set_option maxRecDepth 20000 in
theorem tX6_put_b5 {d : Nat} {B : mB} {v : mV} {w : mX} {Q : Option Int32 → mMH → Prop} {t : Nat} (hB : isTim B t) (y1 : Int32) (y2 : Int32) (y3 : Int32) (y5 : Int32) {u : mF × mF × mF} {f_this : mF} (hK : ∀ (e4 : Option Value) (he4 : mC1 e4 = true) (e6 : Option Value) (he6 : mC1 e6 = true), RJ (d + 1) kX6_put (none) 6 [some (.ref t), some (.int y1), some (.int y2), some (.int y3), e4, some (.int y5), e6] [] (mH B (mE v [(t, f_this), (t + 1, u.1), (t + 2, u.2.1), (t + 3, u.2.2)]) w) Q) : ∀ (n : Nat) (y6 : Int32) (e4 : Option Value) (he4 : mC1 e4 = true) (f_process : mF) (f_time : mF) (f_isBy : mF), OX6_put_b5 n y1 y2 y3 y5 y6 f_process f_time f_isBy → FX6_put_b5 n y1 y2 y3 y5 y6 f_process f_time f_isBy = u → RJ (d + 1) kX6_put (none) 5 [some (.ref t), some (.int y1), some (.int y2), some (.int y3), e4, some (.int y5), some (.int y6)] [] (mH B (mE v [(t, f_this), (t + 1, f_process), (t + 2, f_time), (t + 3, f_isBy)]) w) Q := by
  intro n
  induction n with
  | zero => exact fun _ _ _ _ _ _ hO => hO.elim
  | succ n ih5 =>
    intro y6 e4 he4 f_process f_time f_isBy hO hP
    rw [FX6_put_b5] at hP
    rw [OX6_put_b5] at hO
    have hn : ∀ (f_this : mF) (f_process : mF) (f_time : mF) (f_isBy : mF), mNd [(t, f_this), (t + 1, f_process), (t + 2, f_time), (t + 3, f_isBy)] := fun _ _ _ _ => by
      show List.Nodup _
      simp only [List.map_cons, List.map_nil, List.nodup_cons, List.mem_cons, List.not_mem_nil, or_false, not_or, not_false_eq_true, List.nodup_nil, and_true]
      omega
    show RB _ _ _ _ [some (.ref t), some (.int y1), some (.int y2), some (.int y3), e4, some (.int y5), some (.int y6)] [] _ _
    refine r_iload rfl ?_
    refine r_iload rfl ?_
    refine r_icmp (fun c20 : y6 ≤ y5 => ?_) (fun c20 : ¬ (y6 ≤ y5) => ?_)
    · rw [if_pos c20] at hP
      have hO := hO.1 c20
      subst hP
      exact hK e4 he4 (some (.int y6)) rfl
    · rw [if_neg c20] at hP
      have hO := hO.2 c20
      refine r_aload rfl ?_
      refine r_getr (q := t + 1) hB.1 hB.2.2.2.2.1 ?_
      refine r_iload rfl ?_
      refine r_aload rfl ?_
      refine r_getr (q := t + 1) hB.1 hB.2.2.2.2.1 ?_
      refine r_iload rfl ?_
      refine r_int ?_
      refine r_isub ?_
      obtain ⟨h21, hO⟩ := hO
      refine r_ald (x := f_process ((y6 - 1 : Int32).toNatClampNeg)) 1 ((y6 - 1 : Int32).toNatClampNeg) (hn _ _ _ _) rfl hB.2.1 (by decide) rfl h21 rfl rfl ?_
      obtain ⟨h22, hO⟩ := hO
      refine r_ast (y := f_process ((y6 - 1 : Int32).toNatClampNeg)) (env' := [(t, f_this), (t + 1, (upd f_process ((y6 : Int32).toNatClampNeg) (f_process ((y6 - 1 : Int32).toNatClampNeg)))), (t + 2, f_time), (t + 3, f_isBy)]) 1 ((y6 : Int32).toNatClampNeg) (hn _ _ _ _) rfl hB.2.1 (by decide) rfl h22 rfl rfl rfl ?_
      generalize hg_g23 : upd f_process ((y6 : Int32).toNatClampNeg) (f_process ((y6 - 1 : Int32).toNatClampNeg)) = g23 at hP hO ⊢
      try dsimp only at hP hO
      refine r_aload rfl ?_
      refine r_getr (q := t + 2) hB.1 hB.2.2.2.2.2.1 ?_
      refine r_iload rfl ?_
      refine r_aload rfl ?_
      refine r_getr (q := t + 2) hB.1 hB.2.2.2.2.2.1 ?_
      refine r_iload rfl ?_
      refine r_int ?_
      refine r_isub ?_
      obtain ⟨h24, hO⟩ := hO
      refine r_ald (x := f_time ((y6 - 1 : Int32).toNatClampNeg)) 2 ((y6 - 1 : Int32).toNatClampNeg) (hn _ _ _ _) rfl hB.2.2.1 (by decide) rfl h24 rfl rfl ?_
      obtain ⟨h25, hO⟩ := hO
      refine r_ast (y := f_time ((y6 - 1 : Int32).toNatClampNeg)) (env' := [(t, f_this), (t + 1, g23), (t + 2, (upd f_time ((y6 : Int32).toNatClampNeg) (f_time ((y6 - 1 : Int32).toNatClampNeg)))), (t + 3, f_isBy)]) 2 ((y6 : Int32).toNatClampNeg) (hn _ _ _ _) rfl hB.2.2.1 (by decide) rfl h25 rfl rfl rfl ?_
      generalize hg_g26 : upd f_time ((y6 : Int32).toNatClampNeg) (f_time ((y6 - 1 : Int32).toNatClampNeg)) = g26 at hP hO ⊢
      try dsimp only at hP hO
      refine r_aload rfl ?_
      refine r_getr (q := t + 3) hB.1 hB.2.2.2.2.2.2 ?_
      refine r_iload rfl ?_
      refine r_aload rfl ?_
      refine r_getr (q := t + 3) hB.1 hB.2.2.2.2.2.2 ?_
      refine r_iload rfl ?_
      refine r_int ?_
      refine r_isub ?_
      obtain ⟨h27, hO⟩ := hO
      refine r_ald (x := f_isBy ((y6 - 1 : Int32).toNatClampNeg)) 3 ((y6 - 1 : Int32).toNatClampNeg) (hn _ _ _ _) rfl hB.2.2.2.1 (by decide) (Or.inr rfl) h27 rfl rfl ?_
      obtain ⟨h28, hO⟩ := hO
      refine r_ast (y := mNr 22 (f_isBy ((y6 - 1 : Int32).toNatClampNeg))) (env' := [(t, f_this), (t + 1, g23), (t + 2, g26), (t + 3, (upd f_isBy ((y6 : Int32).toNatClampNeg) (mNr 22 (f_isBy ((y6 - 1 : Int32).toNatClampNeg)))))]) 3 ((y6 : Int32).toNatClampNeg) (hn _ _ _ _) rfl hB.2.2.2.1 (by decide) (Or.inr rfl) h28 rfl rfl rfl ?_
      generalize hg_g29 : upd f_isBy ((y6 : Int32).toNatClampNeg) (mNr 22 (f_isBy ((y6 - 1 : Int32).toNatClampNeg))) = g29 at hP hO ⊢
      try dsimp only at hP hO
      refine r_iinc (L' := [some (.ref t), some (.int y1), some (.int y2), some (.int y3), e4, some (.int y5), some (.int (y6 + (-1)))]) rfl rfl rfl ?_
      refine r_goto ?_
      exact ih5 (y6 + (-1)) e4 he4 g23 g26 g29 hO hP
def FX6_put (x1 : Int32) (x2 : Int32) (x3 : Int32) (f_this : mF) (f_process : mF) (f_time : mF) (f_isBy : mF) : Int32 × mF × mF × mF × mF :=
  let u1 := FX6_isFull f_this; if u1 = 0 then (let u6 := FX6_put_b2 10000 x1 x2 x3 (x1 &&& 1) 0 f_this f_process; let u16 := FX6_put_b3 10000 x1 x2 x3 (x1 &&& 1) u6 f_this f_process f_time; let u30 := FX6_put_b5 10000 x1 x2 x3 u16 (f_this 0) f_process f_time f_isBy; let g35 := upd u30.1 ((u16 : Int32).toNatClampNeg) x1; let g37 := upd u30.2.1 ((u16 : Int32).toNatClampNeg) x2; let g39 := upd u30.2.2 ((u16 : Int32).toNatClampNeg) (mNr 22 x3); (0, (upd f_this 0 ((f_this 0) + 1)), g35, g37, g39)) else ((0, f_this, f_process, f_time, f_isBy))
def OX6_put (x1 : Int32) (x2 : Int32) (x3 : Int32) (f_this : mF) (f_process : mF) (f_time : mF) (f_isBy : mF) : Prop :=
  (let u1 := FX6_isFull f_this; (u1 = 0 → (OX6_put_b2 10000 x1 x2 x3 (x1 &&& 1) 0 f_this f_process ∧ (let u6 := FX6_put_b2 10000 x1 x2 x3 (x1 &&& 1) 0 f_this f_process; OX6_put_b3 10000 x1 x2 x3 (x1 &&& 1) u6 f_this f_process f_time ∧ (let u16 := FX6_put_b3 10000 x1 x2 x3 (x1 &&& 1) u6 f_this f_process f_time; OX6_put_b5 10000 x1 x2 x3 u16 (f_this 0) f_process f_time f_isBy ∧ (let u30 := FX6_put_b5 10000 x1 x2 x3 u16 (f_this 0) f_process f_time f_isBy; vp_in u16 12 ∧ (let g35 := upd u30.1 ((u16 : Int32).toNatClampNeg) x1; vp_in u16 12 ∧ (let g37 := upd u30.2.1 ((u16 : Int32).toNatClampNeg) x2; vp_in u16 12))))))) ∧ (¬ (u1 = 0) → True))
set_option maxRecDepth 20000 in
theorem tX6_put {d : Nat} {B : mB} {v : mV} {w : mX} {Q : Option Int32 → mMH → Prop} {t : Nat} (hB : isTim B t) (x1 : Int32) (x2 : Int32) (x3 : Int32) (f_this : mF) (f_process : mF) (f_time : mF) (f_isBy : mF) (hO : OX6_put x1 x2 x3 f_this f_process f_time f_isBy) (hQ : Q (none) (mH B (mE v [(t, (FX6_put x1 x2 x3 f_this f_process f_time f_isBy).2.1), (t + 1, (FX6_put x1 x2 x3 f_this f_process f_time f_isBy).2.2.1), (t + 2, (FX6_put x1 x2 x3 f_this f_process f_time f_isBy).2.2.2.1), (t + 3, (FX6_put x1 x2 x3 f_this f_process f_time f_isBy).2.2.2.2)]) w)) : CQ (d + 2) 102 [.ref t, .int x1, .int x2, .int x3] (mH B (mE v [(t, f_this), (t + 1, f_process), (t + 2, f_time), (t + 3, f_isBy)]) w) Q := by
  have hn : ∀ (f_this : mF) (f_process : mF) (f_time : mF) (f_isBy : mF), mNd [(t, f_this), (t + 1, f_process), (t + 2, f_time), (t + 3, f_isBy)] := fun _ _ _ _ => by
    show List.Nodup _
    simp only [List.map_cons, List.map_nil, List.nodup_cons, List.mem_cons, List.not_mem_nil, or_false, not_or, not_false_eq_true, List.nodup_nil, and_true]
    omega
  obtain ⟨P, hPQ, hP⟩ : ∃ P : Int32 × mF × mF × mF × mF → Prop, (∀ (q : Int32) (q0 : mF) (q1 : mF) (q2 : mF) (q3 : mF), P (q, q0, q1, q2, q3) → Q (none) (mH B (mE v [(t, q0), (t + 1, q1), (t + 2, q2), (t + 3, q3)]) w)) ∧ P (FX6_put x1 x2 x3 f_this f_process f_time f_isBy) := ⟨fun res => Q (none) (mH B (mE v [(t, res.2.1), (t + 1, res.2.2.1), (t + 2, res.2.2.2.1), (t + 3, res.2.2.2.2)]) w), fun _ _ _ _ _ h => h, hQ⟩
  refine r_begin mt_102 (by intro a ha; simp only [List.mem_cons, List.not_mem_nil, or_false] at ha; rcases ha with rfl | rfl | rfl | rfl <;> rfl) (Nat.le_of_ble_eq_true rfl) ?_
  rw [FX6_put] at hP
  rw [OX6_put] at hO
  show RB _ _ _ _ [some (.ref t), some (.int x1), some (.int x2), some (.int x3), none, none, none] [] _ _
  refine r_aload rfl ?_
  have k40 := fun (Q' : Option Int32 → mMH → Prop) hq => tX6_isFull (d := d + 0) (B := B) (v := mE v [(t, f_this), (t + 1, f_process), (t + 2, f_time), (t + 3, f_isBy)]) (w := w) (Q := Q') hB f_this hq
  generalize hg_u1 : FX6_isFull f_this = u1 at k40 hP hO
  try dsimp only at hP hO
  refine r_callV (st := []) (o := t) (as := []) (envc := [(t, f_this)]) (envc' := [(t, f_this)]) (env' := [(t, f_this), (t + 1, f_process), (t + 2, f_time), (t + 3, f_isBy)]) (rv := some u1) [0] (hn _ _ _ _) rfl rfl (Nat.le_of_ble_eq_true rfl) hB.1 rfl rfl rfl k40 ?_
  show RB _ _ _ _ _ [.int u1] _ _
  refine r_if (fun c2 : u1 = 0 => ?_) (fun c2 : ¬ (u1 = 0) => ?_)
  · rw [if_pos c2] at hP
    have hO := hO.1 c2
    refine r_iload rfl ?_
    refine r_int ?_
    refine r_iand ?_
    refine r_istore (L' := [some (.ref t), some (.int x1), some (.int x2), some (.int x3), some (.int (x1 &&& 1)), none, none]) rfl rfl ?_
    refine r_int ?_
    refine r_istore (L' := [some (.ref t), some (.int x1), some (.int x2), some (.int x3), some (.int (x1 &&& 1)), some (.int 0), none]) rfl rfl ?_
    refine r_fall ?_
    obtain ⟨h7, hO⟩ := hO
    generalize hg_u6 : FX6_put_b2 10000 x1 x2 x3 (x1 &&& 1) 0 f_this f_process = u6 at hP hO
    try dsimp only at hP hO
    refine tX6_put_b2 hB x1 x2 x3 (x1 &&& 1) (u := u6) (f_this := f_this) (f_process := f_process) (f_time := f_time) (f_isBy := f_isBy) ?_ 10000 0 none rfl h7 hg_u6
    intro e8 he8
    obtain ⟨h17, hO⟩ := hO
    generalize hg_u16 : FX6_put_b3 10000 x1 x2 x3 (x1 &&& 1) u6 f_this f_process f_time = u16 at hP hO
    try dsimp only at hP hO
    refine tX6_put_b3 hB x1 x2 x3 (x1 &&& 1) (u := u16) (f_this := f_this) (f_process := f_process) (f_time := f_time) (f_isBy := f_isBy) ?_ 10000 u6 e8 he8 h17 hg_u16
    intro e18 he18 e19 he19
    refine r_aload rfl ?_
    refine r_get (x := f_this 0) 0 (hn _ _ _ _) rfl hB.1 (by decide) rfl ?_
    refine r_istore (L' := [some (.ref t), some (.int x1), some (.int x2), some (.int x3), e18, some (.int u16), some (.int (f_this 0))]) rfl rfl ?_
    refine r_fall ?_
    obtain ⟨h31, hO⟩ := hO
    generalize hg_u30 : FX6_put_b5 10000 x1 x2 x3 u16 (f_this 0) f_process f_time f_isBy = u30 at hP hO
    try dsimp only at hP hO
    refine tX6_put_b5 hB x1 x2 x3 u16 (u := u30) (f_this := f_this) ?_ 10000 (f_this 0) e18 he18 f_process f_time f_isBy h31 hg_u30
    intro e32 he32 e33 he33
    refine r_aload rfl ?_
    refine r_getr (q := t + 1) hB.1 hB.2.2.2.2.1 ?_
    refine r_iload rfl ?_
    refine r_iload rfl ?_
    obtain ⟨h34, hO⟩ := hO
    refine r_ast (y := x1) (env' := [(t, f_this), (t + 1, (upd u30.1 ((u16 : Int32).toNatClampNeg) x1)), (t + 2, u30.2.1), (t + 3, u30.2.2)]) 1 ((u16 : Int32).toNatClampNeg) (hn _ _ _ _) rfl hB.2.1 (by decide) rfl h34 rfl rfl rfl ?_
    generalize hg_g35 : upd u30.1 ((u16 : Int32).toNatClampNeg) x1 = g35 at hP hO ⊢
    try dsimp only at hP hO
    refine r_aload rfl ?_
    refine r_getr (q := t + 2) hB.1 hB.2.2.2.2.2.1 ?_
    refine r_iload rfl ?_
    refine r_iload rfl ?_
    obtain ⟨h36, hO⟩ := hO
    refine r_ast (y := x2) (env' := [(t, f_this), (t + 1, g35), (t + 2, (upd u30.2.1 ((u16 : Int32).toNatClampNeg) x2)), (t + 3, u30.2.2)]) 2 ((u16 : Int32).toNatClampNeg) (hn _ _ _ _) rfl hB.2.2.1 (by decide) rfl h36 rfl rfl rfl ?_
    generalize hg_g37 : upd u30.2.1 ((u16 : Int32).toNatClampNeg) x2 = g37 at hP hO ⊢
    try dsimp only at hP hO
    refine r_aload rfl ?_
    refine r_getr (q := t + 3) hB.1 hB.2.2.2.2.2.2 ?_
    refine r_iload rfl ?_
    refine r_iload rfl ?_
    have h38 := hO
    refine r_ast (y := mNr 22 x3) (env' := [(t, f_this), (t + 1, g35), (t + 2, g37), (t + 3, (upd u30.2.2 ((u16 : Int32).toNatClampNeg) (mNr 22 x3)))]) 3 ((u16 : Int32).toNatClampNeg) (hn _ _ _ _) rfl hB.2.2.2.1 (by decide) (Or.inr rfl) h38 rfl rfl rfl ?_
    generalize hg_g39 : upd u30.2.2 ((u16 : Int32).toNatClampNeg) (mNr 22 x3) = g39 at hP ⊢
    try dsimp only at hP
    refine r_aload rfl ?_
    refine r_dup rfl ?_
    refine r_get (x := f_this 0) 0 (hn _ _ _ _) rfl hB.1 (by decide) rfl ?_
    refine r_int ?_
    refine r_iadd ?_
    refine r_put (env' := [(t, (upd f_this 0 ((f_this 0) + 1))), (t + 1, g35), (t + 2, g37), (t + 3, g39)]) 0 (hn _ _ _ _) rfl rfl hB.1 ?_
    exact r_retv rfl (hPQ 0 (upd f_this 0 ((f_this 0) + 1)) g35 g37 g39 hP)
  · rw [if_neg c2] at hP
    have hO := hO.2 c2
    exact r_retv rfl (hPQ 0 f_this f_process f_time f_isBy hP)

def FX6_remove_b3 : Nat → Int32 → mF → mF → mF → mF → mF × mF × mF
  | 0, _, _, f_process, f_time, f_isBy => (f_process, f_time, f_isBy)
  | n + 1, y2, f_this, f_process, f_time, f_isBy =>
    if (f_this 0) ≤ y2 then ((f_process, f_time, f_isBy)) else (let g6 := upd f_process ((y2 : Int32).toNatClampNeg) (f_process ((y2 + 1 : Int32).toNatClampNeg)); let g9 := upd f_time ((y2 : Int32).toNatClampNeg) (f_time ((y2 + 1 : Int32).toNatClampNeg)); let g12 := upd f_isBy ((y2 : Int32).toNatClampNeg) (mNr 22 (f_isBy ((y2 + 1 : Int32).toNatClampNeg))); FX6_remove_b3 n (y2 + 1) f_this g6 g9 g12)
def OX6_remove_b3 : Nat → Int32 → mF → mF → mF → mF → Prop
  | 0, _, _, _, _, _ => False
  | n + 1, y2, f_this, f_process, f_time, f_isBy =>
    ((f_this 0) ≤ y2 → True) ∧ (¬ ((f_this 0) ≤ y2) → (vp_in (y2 + 1) 12 ∧ (vp_in y2 12 ∧ (let g6 := upd f_process ((y2 : Int32).toNatClampNeg) (f_process ((y2 + 1 : Int32).toNatClampNeg)); vp_in (y2 + 1) 12 ∧ (vp_in y2 12 ∧ (let g9 := upd f_time ((y2 : Int32).toNatClampNeg) (f_time ((y2 + 1 : Int32).toNatClampNeg)); vp_in (y2 + 1) 12 ∧ (vp_in y2 12 ∧ (let g12 := upd f_isBy ((y2 : Int32).toNatClampNeg) (mNr 22 (f_isBy ((y2 + 1 : Int32).toNatClampNeg))); OX6_remove_b3 n (y2 + 1) f_this g6 g9 g12))))))))
set_option maxRecDepth 20000 in
theorem tX6_remove_b3 {d : Nat} {B : mB} {v : mV} {w : mX} {Q : Option Int32 → mMH → Prop} {t : Nat} (hB : isTim B t) {u : mF × mF × mF} {f_this : mF} (hK : ∀ (e0 : Option Value) (he0 : mC1 e0 = true) (e1 : Option Value) (he1 : mC1 e1 = true) (e2 : Option Value) (he2 : mC1 e2 = true), RJ (d + 0) kX6_remove (none) 4 [e0, e1, e2] [] (mH B (mE v [(t, f_this), (t + 1, u.1), (t + 2, u.2.1), (t + 3, u.2.2)]) w) Q) : ∀ (n : Nat) (y2 : Int32) (e1 : Option Value) (he1 : mC1 e1 = true) (f_process : mF) (f_time : mF) (f_isBy : mF), OX6_remove_b3 n y2 f_this f_process f_time f_isBy → FX6_remove_b3 n y2 f_this f_process f_time f_isBy = u → RJ (d + 0) kX6_remove (none) 3 [some (.ref t), e1, some (.int y2)] [] (mH B (mE v [(t, f_this), (t + 1, f_process), (t + 2, f_time), (t + 3, f_isBy)]) w) Q := by
  intro n
  induction n with
  | zero => exact fun _ _ _ _ _ _ hO => hO.elim
  | succ n ih3 =>
    intro y2 e1 he1 f_process f_time f_isBy hO hP
    rw [FX6_remove_b3] at hP
    rw [OX6_remove_b3] at hO
    have hn : ∀ (f_this : mF) (f_process : mF) (f_time : mF) (f_isBy : mF), mNd [(t, f_this), (t + 1, f_process), (t + 2, f_time), (t + 3, f_isBy)] := fun _ _ _ _ => by
      show List.Nodup _
      simp only [List.map_cons, List.map_nil, List.nodup_cons, List.mem_cons, List.not_mem_nil, or_false, not_or, not_false_eq_true, List.nodup_nil, and_true]
      omega
    show RB _ _ _ _ [some (.ref t), e1, some (.int y2)] [] _ _
    refine r_iload rfl ?_
    refine r_aload rfl ?_
    refine r_get (x := f_this 0) 0 (hn _ _ _ _) rfl hB.1 (by decide) rfl ?_
    refine r_icmp (fun c3 : (f_this 0) ≤ y2 => ?_) (fun c3 : ¬ ((f_this 0) ≤ y2) => ?_)
    · rw [if_pos c3] at hP
      have hO := hO.1 c3
      subst hP
      exact hK (some (.ref t)) rfl e1 he1 (some (.int y2)) rfl
    · rw [if_neg c3] at hP
      have hO := hO.2 c3
      refine r_aload rfl ?_
      refine r_getr (q := t + 1) hB.1 hB.2.2.2.2.1 ?_
      refine r_iload rfl ?_
      refine r_aload rfl ?_
      refine r_getr (q := t + 1) hB.1 hB.2.2.2.2.1 ?_
      refine r_iload rfl ?_
      refine r_int ?_
      refine r_iadd ?_
      obtain ⟨h4, hO⟩ := hO
      refine r_ald (x := f_process ((y2 + 1 : Int32).toNatClampNeg)) 1 ((y2 + 1 : Int32).toNatClampNeg) (hn _ _ _ _) rfl hB.2.1 (by decide) rfl h4 rfl rfl ?_
      obtain ⟨h5, hO⟩ := hO
      refine r_ast (y := f_process ((y2 + 1 : Int32).toNatClampNeg)) (env' := [(t, f_this), (t + 1, (upd f_process ((y2 : Int32).toNatClampNeg) (f_process ((y2 + 1 : Int32).toNatClampNeg)))), (t + 2, f_time), (t + 3, f_isBy)]) 1 ((y2 : Int32).toNatClampNeg) (hn _ _ _ _) rfl hB.2.1 (by decide) rfl h5 rfl rfl rfl ?_
      generalize hg_g6 : upd f_process ((y2 : Int32).toNatClampNeg) (f_process ((y2 + 1 : Int32).toNatClampNeg)) = g6 at hP hO ⊢
      try dsimp only at hP hO
      refine r_aload rfl ?_
      refine r_getr (q := t + 2) hB.1 hB.2.2.2.2.2.1 ?_
      refine r_iload rfl ?_
      refine r_aload rfl ?_
      refine r_getr (q := t + 2) hB.1 hB.2.2.2.2.2.1 ?_
      refine r_iload rfl ?_
      refine r_int ?_
      refine r_iadd ?_
      obtain ⟨h7, hO⟩ := hO
      refine r_ald (x := f_time ((y2 + 1 : Int32).toNatClampNeg)) 2 ((y2 + 1 : Int32).toNatClampNeg) (hn _ _ _ _) rfl hB.2.2.1 (by decide) rfl h7 rfl rfl ?_
      obtain ⟨h8, hO⟩ := hO
      refine r_ast (y := f_time ((y2 + 1 : Int32).toNatClampNeg)) (env' := [(t, f_this), (t + 1, g6), (t + 2, (upd f_time ((y2 : Int32).toNatClampNeg) (f_time ((y2 + 1 : Int32).toNatClampNeg)))), (t + 3, f_isBy)]) 2 ((y2 : Int32).toNatClampNeg) (hn _ _ _ _) rfl hB.2.2.1 (by decide) rfl h8 rfl rfl rfl ?_
      generalize hg_g9 : upd f_time ((y2 : Int32).toNatClampNeg) (f_time ((y2 + 1 : Int32).toNatClampNeg)) = g9 at hP hO ⊢
      try dsimp only at hP hO
      refine r_aload rfl ?_
      refine r_getr (q := t + 3) hB.1 hB.2.2.2.2.2.2 ?_
      refine r_iload rfl ?_
      refine r_aload rfl ?_
      refine r_getr (q := t + 3) hB.1 hB.2.2.2.2.2.2 ?_
      refine r_iload rfl ?_
      refine r_int ?_
      refine r_iadd ?_
      obtain ⟨h10, hO⟩ := hO
      refine r_ald (x := f_isBy ((y2 + 1 : Int32).toNatClampNeg)) 3 ((y2 + 1 : Int32).toNatClampNeg) (hn _ _ _ _) rfl hB.2.2.2.1 (by decide) (Or.inr rfl) h10 rfl rfl ?_
      obtain ⟨h11, hO⟩ := hO
      refine r_ast (y := mNr 22 (f_isBy ((y2 + 1 : Int32).toNatClampNeg))) (env' := [(t, f_this), (t + 1, g6), (t + 2, g9), (t + 3, (upd f_isBy ((y2 : Int32).toNatClampNeg) (mNr 22 (f_isBy ((y2 + 1 : Int32).toNatClampNeg)))))]) 3 ((y2 : Int32).toNatClampNeg) (hn _ _ _ _) rfl hB.2.2.2.1 (by decide) (Or.inr rfl) h11 rfl rfl rfl ?_
      generalize hg_g12 : upd f_isBy ((y2 : Int32).toNatClampNeg) (mNr 22 (f_isBy ((y2 + 1 : Int32).toNatClampNeg))) = g12 at hP hO ⊢
      try dsimp only at hP hO
      refine r_iinc (L' := [some (.ref t), e1, some (.int (y2 + 1))]) rfl (mNL_e (e := e1) rfl he1) rfl ?_
      refine r_goto ?_
      exact ih3 (y2 + 1) e1 he1 g6 g9 g12 hO hP
def FX6_remove (x1 : Int32) (f_this : mF) (f_process : mF) (f_time : mF) (f_isBy : mF) : Int32 × mF × mF × mF × mF :=
  if x1 < 0 then ((0, f_this, f_process, f_time, f_isBy)) else (if x1 < (f_this 0) then (let u13 := FX6_remove_b3 10000 x1 (upd f_this 0 ((f_this 0) - 1)) f_process f_time f_isBy; (0, (upd f_this 0 ((f_this 0) - 1)), u13.1, u13.2.1, u13.2.2)) else ((0, f_this, f_process, f_time, f_isBy)))
def OX6_remove (x1 : Int32) (f_this : mF) (f_process : mF) (f_time : mF) (f_isBy : mF) : Prop :=
  (x1 < 0 → True) ∧ (¬ (x1 < 0) → ((x1 < (f_this 0) → (OX6_remove_b3 10000 x1 (upd f_this 0 ((f_this 0) - 1)) f_process f_time f_isBy)) ∧ (¬ (x1 < (f_this 0)) → True)))
set_option maxRecDepth 20000 in
theorem tX6_remove {d : Nat} {B : mB} {v : mV} {w : mX} {Q : Option Int32 → mMH → Prop} {t : Nat} (hB : isTim B t) (x1 : Int32) (f_this : mF) (f_process : mF) (f_time : mF) (f_isBy : mF) (hO : OX6_remove x1 f_this f_process f_time f_isBy) (hQ : Q (none) (mH B (mE v [(t, (FX6_remove x1 f_this f_process f_time f_isBy).2.1), (t + 1, (FX6_remove x1 f_this f_process f_time f_isBy).2.2.1), (t + 2, (FX6_remove x1 f_this f_process f_time f_isBy).2.2.2.1), (t + 3, (FX6_remove x1 f_this f_process f_time f_isBy).2.2.2.2)]) w)) : CQ (d + 1) 103 [.ref t, .int x1] (mH B (mE v [(t, f_this), (t + 1, f_process), (t + 2, f_time), (t + 3, f_isBy)]) w) Q := by
  have hn : ∀ (f_this : mF) (f_process : mF) (f_time : mF) (f_isBy : mF), mNd [(t, f_this), (t + 1, f_process), (t + 2, f_time), (t + 3, f_isBy)] := fun _ _ _ _ => by
    show List.Nodup _
    simp only [List.map_cons, List.map_nil, List.nodup_cons, List.mem_cons, List.not_mem_nil, or_false, not_or, not_false_eq_true, List.nodup_nil, and_true]
    omega
  obtain ⟨P, hPQ, hP⟩ : ∃ P : Int32 × mF × mF × mF × mF → Prop, (∀ (q : Int32) (q0 : mF) (q1 : mF) (q2 : mF) (q3 : mF), P (q, q0, q1, q2, q3) → Q (none) (mH B (mE v [(t, q0), (t + 1, q1), (t + 2, q2), (t + 3, q3)]) w)) ∧ P (FX6_remove x1 f_this f_process f_time f_isBy) := ⟨fun res => Q (none) (mH B (mE v [(t, res.2.1), (t + 1, res.2.2.1), (t + 2, res.2.2.2.1), (t + 3, res.2.2.2.2)]) w), fun _ _ _ _ _ h => h, hQ⟩
  refine r_begin mt_103 (by intro a ha; simp only [List.mem_cons, List.not_mem_nil, or_false] at ha; rcases ha with rfl | rfl <;> rfl) (Nat.le_of_ble_eq_true rfl) ?_
  rw [FX6_remove] at hP
  rw [OX6_remove] at hO
  show RB _ _ _ _ [some (.ref t), some (.int x1), none] [] _ _
  refine r_iload rfl ?_
  refine r_if (fun c1 : x1 < 0 => ?_) (fun c1 : ¬ (x1 < 0) => ?_)
  · rw [if_pos c1] at hP
    have hO := hO.1 c1
    exact r_retv rfl (hPQ 0 f_this f_process f_time f_isBy hP)
  · rw [if_neg c1] at hP
    have hO := hO.2 c1
    refine r_iload rfl ?_
    refine r_aload rfl ?_
    refine r_get (x := f_this 0) 0 (hn _ _ _ _) rfl hB.1 (by decide) rfl ?_
    refine r_icmp (fun c2 : x1 < (f_this 0) => ?_) (fun c2 : ¬ (x1 < (f_this 0)) => ?_)
    · rw [if_pos c2] at hP
      have hO := hO.1 c2
      refine r_aload rfl ?_
      refine r_dup rfl ?_
      refine r_get (x := f_this 0) 0 (hn _ _ _ _) rfl hB.1 (by decide) rfl ?_
      refine r_int ?_
      refine r_isub ?_
      refine r_put (env' := [(t, (upd f_this 0 ((f_this 0) - 1))), (t + 1, f_process), (t + 2, f_time), (t + 3, f_isBy)]) 0 (hn _ _ _ _) rfl rfl hB.1 ?_
      refine r_iload rfl ?_
      refine r_istore (L' := [some (.ref t), some (.int x1), some (.int x1)]) rfl rfl ?_
      refine r_fall ?_
      have h14 := hO
      generalize hg_u13 : FX6_remove_b3 10000 x1 (upd f_this 0 ((f_this 0) - 1)) f_process f_time f_isBy = u13 at hP
      try dsimp only at hP
      refine tX6_remove_b3 hB (u := u13) (f_this := (upd f_this 0 ((f_this 0) - 1))) ?_ 10000 x1 (some (.int x1)) rfl f_process f_time f_isBy h14 hg_u13
      intro e15 he15 e16 he16 e17 he17
      exact r_retv rfl (hPQ 0 (upd f_this 0 ((f_this 0) - 1)) u13.1 u13.2.1 u13.2.2 hP)
    · rw [if_neg c2] at hP
      have hO := hO.2 c2
      refine r_fall ?_
      exact r_retv rfl (hPQ 0 f_this f_process f_time f_isBy hP)

def FX6_findByTaltwt_b1 : Nat → Int32 → Int32 → mF → mF → mF → Int32
  | 0, _, _, _, _, _ => 0
  | n + 1, y1, y2, f_this, f_process, f_isBy =>
    if (f_this 0) ≤ y2 then ((-1)) else (if (f_process ((y2 : Int32).toNatClampNeg)) = y1 then (if (f_isBy ((y2 : Int32).toNatClampNeg)) = 0 then (FX6_findByTaltwt_b1 n y1 (y2 + 1) f_this f_process f_isBy) else (y2)) else (FX6_findByTaltwt_b1 n y1 (y2 + 1) f_this f_process f_isBy))
def OX6_findByTaltwt_b1 : Nat → Int32 → Int32 → mF → mF → mF → Prop
  | 0, _, _, _, _, _ => False
  | n + 1, y1, y2, f_this, f_process, f_isBy =>
    ((f_this 0) ≤ y2 → True) ∧ (¬ ((f_this 0) ≤ y2) → (vp_in y2 12 ∧ (((f_process ((y2 : Int32).toNatClampNeg)) = y1 → (vp_in y2 12 ∧ (((f_isBy ((y2 : Int32).toNatClampNeg)) = 0 → (OX6_findByTaltwt_b1 n y1 (y2 + 1) f_this f_process f_isBy)) ∧ (¬ ((f_isBy ((y2 : Int32).toNatClampNeg)) = 0) → True)))) ∧ (¬ ((f_process ((y2 : Int32).toNatClampNeg)) = y1) → (OX6_findByTaltwt_b1 n y1 (y2 + 1) f_this f_process f_isBy)))))
set_option maxRecDepth 20000 in
theorem tX6_findByTaltwt_b1 {d : Nat} {B : mB} {v : mV} {w : mX} {Q : Option Int32 → mMH → Prop} {t : Nat} (hB : isTim B t) {P : Int32 → Prop} {f_this : mF} {f_process : mF} {f_isBy : mF} (hPQ : ∀ (q : Int32), P q → Q (some q) (mH B (mE v [(t, f_this), (t + 1, f_process), (t + 3, f_isBy)]) w)) : ∀ (n : Nat) (y1 : Int32) (y2 : Int32), OX6_findByTaltwt_b1 n y1 y2 f_this f_process f_isBy → P (FX6_findByTaltwt_b1 n y1 y2 f_this f_process f_isBy) → RJ (d + 0) kX6_findByTaltwt (some .int) 1 [some (.ref t), some (.int y1), some (.int y2)] [] (mH B (mE v [(t, f_this), (t + 1, f_process), (t + 3, f_isBy)]) w) Q := by
  intro n
  induction n with
  | zero => exact fun _ _ hO => hO.elim
  | succ n ih1 =>
    intro y1 y2 hO hP
    rw [FX6_findByTaltwt_b1] at hP
    rw [OX6_findByTaltwt_b1] at hO
    have hn : ∀ (f_this : mF) (f_process : mF) (f_isBy : mF), mNd [(t, f_this), (t + 1, f_process), (t + 3, f_isBy)] := fun _ _ _ => by
      show List.Nodup _
      simp only [List.map_cons, List.map_nil, List.nodup_cons, List.mem_cons, List.not_mem_nil, or_false, not_or, not_false_eq_true, List.nodup_nil, and_true]
      omega
    show RB _ _ _ _ [some (.ref t), some (.int y1), some (.int y2)] [] _ _
    refine r_iload rfl ?_
    refine r_aload rfl ?_
    refine r_get (x := f_this 0) 0 (hn _ _ _) rfl hB.1 (by decide) rfl ?_
    refine r_icmp (fun c1 : (f_this 0) ≤ y2 => ?_) (fun c1 : ¬ ((f_this 0) ≤ y2) => ?_)
    · rw [if_pos c1] at hP
      have hO := hO.1 c1
      refine r_int ?_
      exact r_ret rfl rfl (hPQ (-1) hP)
    · rw [if_neg c1] at hP
      have hO := hO.2 c1
      refine r_aload rfl ?_
      refine r_getr (q := t + 1) hB.1 hB.2.2.2.2.1 ?_
      refine r_iload rfl ?_
      obtain ⟨h2, hO⟩ := hO
      refine r_ald (x := f_process ((y2 : Int32).toNatClampNeg)) 1 ((y2 : Int32).toNatClampNeg) (hn _ _ _) rfl hB.2.1 (by decide) rfl h2 rfl rfl ?_
      refine r_iload rfl ?_
      refine r_icmp1 (fun c3 : (f_process ((y2 : Int32).toNatClampNeg)) = y1 => ?_) (fun c3 : ¬ ((f_process ((y2 : Int32).toNatClampNeg)) = y1) => ?_)
      · rw [if_pos c3] at hP
        have hO := hO.1 c3
        refine r_aload rfl ?_
        refine r_getr (q := t + 3) hB.1 hB.2.2.2.2.2.2 ?_
        refine r_iload rfl ?_
        obtain ⟨h4, hO⟩ := hO
        refine r_ald (x := f_isBy ((y2 : Int32).toNatClampNeg)) 2 ((y2 : Int32).toNatClampNeg) (hn _ _ _) rfl hB.2.2.2.1 (by decide) (Or.inr rfl) h4 rfl rfl ?_
        refine r_if (fun c5 : (f_isBy ((y2 : Int32).toNatClampNeg)) = 0 => ?_) (fun c5 : ¬ ((f_isBy ((y2 : Int32).toNatClampNeg)) = 0) => ?_)
        · rw [if_pos c5] at hP
          have hO := hO.1 c5
          refine r_iinc (L' := [some (.ref t), some (.int y1), some (.int (y2 + 1))]) rfl rfl rfl ?_
          refine r_goto ?_
          exact ih1 y1 (y2 + 1) hO hP
        · rw [if_neg c5] at hP
          have hO := hO.2 c5
          refine r_iload rfl ?_
          exact r_ret rfl rfl (hPQ y2 hP)
      · rw [if_neg c3] at hP
        have hO := hO.2 c3
        refine r_iinc (L' := [some (.ref t), some (.int y1), some (.int (y2 + 1))]) rfl rfl rfl ?_
        refine r_goto ?_
        exact ih1 y1 (y2 + 1) hO hP
def FX6_findByTaltwt (x1 : Int32) (f_this : mF) (f_process : mF) (f_isBy : mF) : Int32 :=
  FX6_findByTaltwt_b1 10000 x1 0 f_this f_process f_isBy
def OX6_findByTaltwt (x1 : Int32) (f_this : mF) (f_process : mF) (f_isBy : mF) : Prop :=
  OX6_findByTaltwt_b1 10000 x1 0 f_this f_process f_isBy
set_option maxRecDepth 20000 in
theorem tX6_findByTaltwt {d : Nat} {B : mB} {v : mV} {w : mX} {Q : Option Int32 → mMH → Prop} {t : Nat} (hB : isTim B t) (x1 : Int32) (f_this : mF) (f_process : mF) (f_isBy : mF) (hO : OX6_findByTaltwt x1 f_this f_process f_isBy) (hQ : Q (some (FX6_findByTaltwt x1 f_this f_process f_isBy)) (mH B (mE v [(t, f_this), (t + 1, f_process), (t + 3, f_isBy)]) w)) : CQ (d + 1) 104 [.ref t, .int x1] (mH B (mE v [(t, f_this), (t + 1, f_process), (t + 3, f_isBy)]) w) Q := by
  have hn : ∀ (f_this : mF) (f_process : mF) (f_isBy : mF), mNd [(t, f_this), (t + 1, f_process), (t + 3, f_isBy)] := fun _ _ _ => by
    show List.Nodup _
    simp only [List.map_cons, List.map_nil, List.nodup_cons, List.mem_cons, List.not_mem_nil, or_false, not_or, not_false_eq_true, List.nodup_nil, and_true]
    omega
  obtain ⟨P, hPQ, hP⟩ : ∃ P : Int32 → Prop, (∀ (q : Int32), P q → Q (some q) (mH B (mE v [(t, f_this), (t + 1, f_process), (t + 3, f_isBy)]) w)) ∧ P (FX6_findByTaltwt x1 f_this f_process f_isBy) := ⟨fun res => Q (some res) (mH B (mE v [(t, f_this), (t + 1, f_process), (t + 3, f_isBy)]) w), fun _ h => h, hQ⟩
  refine r_begin mt_104 (by intro a ha; simp only [List.mem_cons, List.not_mem_nil, or_false] at ha; rcases ha with rfl | rfl <;> rfl) (Nat.le_of_ble_eq_true rfl) ?_
  rw [FX6_findByTaltwt] at hP
  rw [OX6_findByTaltwt] at hO
  show RB _ _ _ _ [some (.ref t), some (.int x1), none] [] _ _
  refine r_int ?_
  refine r_istore (L' := [some (.ref t), some (.int x1), some (.int 0)]) rfl rfl ?_
  refine r_fall ?_
  exact tX6_findByTaltwt_b1 hB hPQ 10000 x1 0 hO hP

def FX6_tell (x1 : Int32) (x2 : Int32) (f_this : mF) (f_process : mF) (f_time : mF) : Int32 :=
  if x1 = (-1) then (if x2 = 0 then ((f_this 0)) else (if x1 < 0 then ((-1)) else (if (f_this 0) ≤ x1 then ((-1)) else (if x2 < 0 then ((-1)) else (if x2 ≤ 1 then (if x2 = 0 then ((f_process ((x1 : Int32).toNatClampNeg))) else ((f_time ((x1 : Int32).toNatClampNeg)))) else ((-1))))))) else (if x1 < 0 then ((-1)) else (if (f_this 0) ≤ x1 then ((-1)) else (if x2 < 0 then ((-1)) else (if x2 ≤ 1 then (if x2 = 0 then ((f_process ((x1 : Int32).toNatClampNeg))) else ((f_time ((x1 : Int32).toNatClampNeg)))) else ((-1))))))
def OX6_tell (x1 : Int32) (x2 : Int32) (f_this : mF) (f_process : mF) (f_time : mF) : Prop :=
  (x1 = (-1) → ((x2 = 0 → True) ∧ (¬ (x2 = 0) → ((x1 < 0 → True) ∧ (¬ (x1 < 0) → (((f_this 0) ≤ x1 → True) ∧ (¬ ((f_this 0) ≤ x1) → ((x2 < 0 → True) ∧ (¬ (x2 < 0) → ((x2 ≤ 1 → ((x2 = 0 → (vp_in x1 12)) ∧ (¬ (x2 = 0) → (vp_in x1 12)))) ∧ (¬ (x2 ≤ 1) → True))))))))))) ∧ (¬ (x1 = (-1)) → ((x1 < 0 → True) ∧ (¬ (x1 < 0) → (((f_this 0) ≤ x1 → True) ∧ (¬ ((f_this 0) ≤ x1) → ((x2 < 0 → True) ∧ (¬ (x2 < 0) → ((x2 ≤ 1 → ((x2 = 0 → (vp_in x1 12)) ∧ (¬ (x2 = 0) → (vp_in x1 12)))) ∧ (¬ (x2 ≤ 1) → True)))))))))
set_option maxRecDepth 20000 in
theorem tX6_tell {d : Nat} {B : mB} {v : mV} {w : mX} {Q : Option Int32 → mMH → Prop} {t : Nat} (hB : isTim B t) (x1 : Int32) (x2 : Int32) (f_this : mF) (f_process : mF) (f_time : mF) (hO : OX6_tell x1 x2 f_this f_process f_time) (hQ : Q (some (FX6_tell x1 x2 f_this f_process f_time)) (mH B (mE v [(t, f_this), (t + 1, f_process), (t + 2, f_time)]) w)) : CQ (d + 1) 105 [.ref t, .int x1, .int x2] (mH B (mE v [(t, f_this), (t + 1, f_process), (t + 2, f_time)]) w) Q := by
  have hn : ∀ (f_this : mF) (f_process : mF) (f_time : mF), mNd [(t, f_this), (t + 1, f_process), (t + 2, f_time)] := fun _ _ _ => by
    show List.Nodup _
    simp only [List.map_cons, List.map_nil, List.nodup_cons, List.mem_cons, List.not_mem_nil, or_false, not_or, not_false_eq_true, List.nodup_nil, and_true]
    omega
  obtain ⟨P, hPQ, hP⟩ : ∃ P : Int32 → Prop, (∀ (q : Int32), P q → Q (some q) (mH B (mE v [(t, f_this), (t + 1, f_process), (t + 2, f_time)]) w)) ∧ P (FX6_tell x1 x2 f_this f_process f_time) := ⟨fun res => Q (some res) (mH B (mE v [(t, f_this), (t + 1, f_process), (t + 2, f_time)]) w), fun _ h => h, hQ⟩
  refine r_begin mt_105 (by intro a ha; simp only [List.mem_cons, List.not_mem_nil, or_false] at ha; rcases ha with rfl | rfl | rfl <;> rfl) (Nat.le_of_ble_eq_true rfl) ?_
  rw [FX6_tell] at hP
  rw [OX6_tell] at hO
  show RB _ _ _ _ [some (.ref t), some (.int x1), some (.int x2)] [] _ _
  refine r_iload rfl ?_
  refine r_int ?_
  refine r_icmp1 (fun c1 : x1 = (-1) => ?_) (fun c1 : ¬ (x1 = (-1)) => ?_)
  · rw [if_pos c1] at hP
    have hO := hO.1 c1
    refine r_iload rfl ?_
    refine r_if1 (fun c2 : x2 = 0 => ?_) (fun c2 : ¬ (x2 = 0) => ?_)
    · rw [if_pos c2] at hP
      have hO := hO.1 c2
      refine r_aload rfl ?_
      refine r_get (x := f_this 0) 0 (hn _ _ _) rfl hB.1 (by decide) rfl ?_
      exact r_ret rfl rfl (hPQ (f_this 0) hP)
    · rw [if_neg c2] at hP
      have hO := hO.2 c2
      refine r_iload rfl ?_
      refine r_if (fun c3 : x1 < 0 => ?_) (fun c3 : ¬ (x1 < 0) => ?_)
      · rw [if_pos c3] at hP
        have hO := hO.1 c3
        refine r_int ?_
        exact r_ret rfl rfl (hPQ (-1) hP)
      · rw [if_neg c3] at hP
        have hO := hO.2 c3
        refine r_iload rfl ?_
        refine r_aload rfl ?_
        refine r_get (x := f_this 0) 0 (hn _ _ _) rfl hB.1 (by decide) rfl ?_
        refine r_icmp (fun c4 : (f_this 0) ≤ x1 => ?_) (fun c4 : ¬ ((f_this 0) ≤ x1) => ?_)
        · rw [if_pos c4] at hP
          have hO := hO.1 c4
          refine r_int ?_
          exact r_ret rfl rfl (hPQ (-1) hP)
        · rw [if_neg c4] at hP
          have hO := hO.2 c4
          refine r_iload rfl ?_
          refine r_if (fun c5 : x2 < 0 => ?_) (fun c5 : ¬ (x2 < 0) => ?_)
          · rw [if_pos c5] at hP
            have hO := hO.1 c5
            refine r_int ?_
            exact r_ret rfl rfl (hPQ (-1) hP)
          · rw [if_neg c5] at hP
            have hO := hO.2 c5
            refine r_iload rfl ?_
            refine r_int ?_
            refine r_icmp (fun c6 : x2 ≤ 1 => ?_) (fun c6 : ¬ (x2 ≤ 1) => ?_)
            · rw [if_pos c6] at hP
              have hO := hO.1 c6
              refine r_iload rfl ?_
              refine r_if1 (fun c7 : x2 = 0 => ?_) (fun c7 : ¬ (x2 = 0) => ?_)
              · rw [if_pos c7] at hP
                have hO := hO.1 c7
                refine r_aload rfl ?_
                refine r_getr (q := t + 1) hB.1 hB.2.2.2.2.1 ?_
                refine r_iload rfl ?_
                have h8 := hO
                refine r_ald (x := f_process ((x1 : Int32).toNatClampNeg)) 1 ((x1 : Int32).toNatClampNeg) (hn _ _ _) rfl hB.2.1 (by decide) rfl h8 rfl rfl ?_
                refine r_goto ?_
                exact r_ret rfl rfl (hPQ (f_process ((x1 : Int32).toNatClampNeg)) hP)
              · rw [if_neg c7] at hP
                have hO := hO.2 c7
                refine r_aload rfl ?_
                refine r_getr (q := t + 2) hB.1 hB.2.2.2.2.2.1 ?_
                refine r_iload rfl ?_
                have h9 := hO
                refine r_ald (x := f_time ((x1 : Int32).toNatClampNeg)) 2 ((x1 : Int32).toNatClampNeg) (hn _ _ _) rfl hB.2.2.1 (by decide) rfl h9 rfl rfl ?_
                refine r_fall ?_
                exact r_ret rfl rfl (hPQ (f_time ((x1 : Int32).toNatClampNeg)) hP)
            · rw [if_neg c6] at hP
              have hO := hO.2 c6
              refine r_fall ?_
              refine r_int ?_
              exact r_ret rfl rfl (hPQ (-1) hP)
  · rw [if_neg c1] at hP
    have hO := hO.2 c1
    refine r_iload rfl ?_
    refine r_if (fun c10 : x1 < 0 => ?_) (fun c10 : ¬ (x1 < 0) => ?_)
    · rw [if_pos c10] at hP
      have hO := hO.1 c10
      refine r_int ?_
      exact r_ret rfl rfl (hPQ (-1) hP)
    · rw [if_neg c10] at hP
      have hO := hO.2 c10
      refine r_iload rfl ?_
      refine r_aload rfl ?_
      refine r_get (x := f_this 0) 0 (hn _ _ _) rfl hB.1 (by decide) rfl ?_
      refine r_icmp (fun c11 : (f_this 0) ≤ x1 => ?_) (fun c11 : ¬ ((f_this 0) ≤ x1) => ?_)
      · rw [if_pos c11] at hP
        have hO := hO.1 c11
        refine r_int ?_
        exact r_ret rfl rfl (hPQ (-1) hP)
      · rw [if_neg c11] at hP
        have hO := hO.2 c11
        refine r_iload rfl ?_
        refine r_if (fun c12 : x2 < 0 => ?_) (fun c12 : ¬ (x2 < 0) => ?_)
        · rw [if_pos c12] at hP
          have hO := hO.1 c12
          refine r_int ?_
          exact r_ret rfl rfl (hPQ (-1) hP)
        · rw [if_neg c12] at hP
          have hO := hO.2 c12
          refine r_iload rfl ?_
          refine r_int ?_
          refine r_icmp (fun c13 : x2 ≤ 1 => ?_) (fun c13 : ¬ (x2 ≤ 1) => ?_)
          · rw [if_pos c13] at hP
            have hO := hO.1 c13
            refine r_iload rfl ?_
            refine r_if1 (fun c14 : x2 = 0 => ?_) (fun c14 : ¬ (x2 = 0) => ?_)
            · rw [if_pos c14] at hP
              have hO := hO.1 c14
              refine r_aload rfl ?_
              refine r_getr (q := t + 1) hB.1 hB.2.2.2.2.1 ?_
              refine r_iload rfl ?_
              have h15 := hO
              refine r_ald (x := f_process ((x1 : Int32).toNatClampNeg)) 1 ((x1 : Int32).toNatClampNeg) (hn _ _ _) rfl hB.2.1 (by decide) rfl h15 rfl rfl ?_
              refine r_goto ?_
              exact r_ret rfl rfl (hPQ (f_process ((x1 : Int32).toNatClampNeg)) hP)
            · rw [if_neg c14] at hP
              have hO := hO.2 c14
              refine r_aload rfl ?_
              refine r_getr (q := t + 2) hB.1 hB.2.2.2.2.2.1 ?_
              refine r_iload rfl ?_
              have h16 := hO
              refine r_ald (x := f_time ((x1 : Int32).toNatClampNeg)) 2 ((x1 : Int32).toNatClampNeg) (hn _ _ _) rfl hB.2.2.1 (by decide) rfl h16 rfl rfl ?_
              refine r_fall ?_
              exact r_ret rfl rfl (hPQ (f_time ((x1 : Int32).toNatClampNeg)) hP)
          · rw [if_neg c13] at hP
            have hO := hO.2 c13
            refine r_fall ?_
            refine r_int ?_
            exact r_ret rfl rfl (hPQ (-1) hP)

def FX6_copy (f_this : mF) (f_process : mF) (f_time : mF) (f_isBy : mF) (f_oth : mF) (f_oth_process : mF) (f_oth_time : mF) (f_oth_isBy : mF) : Int32 × mF × mF × mF × mF :=
  (0, (upd f_this 0 (f_oth 0)), (va_cpy f_oth_process f_process 0 0 12), (va_cpy f_oth_time f_time 0 0 12), (va_cpy f_oth_isBy f_isBy 0 0 12))
def OX6_copy (f_this : mF) (f_process : mF) (f_time : mF) (f_isBy : mF) (f_oth : mF) (f_oth_process : mF) (f_oth_time : mF) (f_oth_isBy : mF) : Prop :=
  (∀ i, i < 12 → fits .boolean (.int (f_oth_isBy (0 + i))) = true)
set_option maxRecDepth 20000 in
theorem tX6_copy {d : Nat} {B : mB} {v : mV} {w : mX} {Q : Option Int32 → mMH → Prop} {t t2 : Nat} (hB : isTim B t) (hB2 : isTim B t2) (hne : t + 4 ≤ t2 ∨ t2 + 4 ≤ t) (f_this : mF) (f_process : mF) (f_time : mF) (f_isBy : mF) (f_oth : mF) (f_oth_process : mF) (f_oth_time : mF) (f_oth_isBy : mF) (hO : OX6_copy f_this f_process f_time f_isBy f_oth f_oth_process f_oth_time f_oth_isBy) (hQ : Q (none) (mH B (mE v [(t, (FX6_copy f_this f_process f_time f_isBy f_oth f_oth_process f_oth_time f_oth_isBy).2.1), (t + 1, (FX6_copy f_this f_process f_time f_isBy f_oth f_oth_process f_oth_time f_oth_isBy).2.2.1), (t + 2, (FX6_copy f_this f_process f_time f_isBy f_oth f_oth_process f_oth_time f_oth_isBy).2.2.2.1), (t + 3, (FX6_copy f_this f_process f_time f_isBy f_oth f_oth_process f_oth_time f_oth_isBy).2.2.2.2), (t2, f_oth), (t2 + 1, f_oth_process), (t2 + 2, f_oth_time), (t2 + 3, f_oth_isBy)]) w)) : CQ (d + 1) 106 [.ref t, .ref t2] (mH B (mE v [(t, f_this), (t + 1, f_process), (t + 2, f_time), (t + 3, f_isBy), (t2, f_oth), (t2 + 1, f_oth_process), (t2 + 2, f_oth_time), (t2 + 3, f_oth_isBy)]) w) Q := by
  have hn : ∀ (f_this : mF) (f_process : mF) (f_time : mF) (f_isBy : mF) (f_oth : mF) (f_oth_process : mF) (f_oth_time : mF) (f_oth_isBy : mF), mNd [(t, f_this), (t + 1, f_process), (t + 2, f_time), (t + 3, f_isBy), (t2, f_oth), (t2 + 1, f_oth_process), (t2 + 2, f_oth_time), (t2 + 3, f_oth_isBy)] := fun _ _ _ _ _ _ _ _ => by
    show List.Nodup _
    simp only [List.map_cons, List.map_nil, List.nodup_cons, List.mem_cons, List.not_mem_nil, or_false, not_or, not_false_eq_true, List.nodup_nil, and_true]
    omega
  obtain ⟨P, hPQ, hP⟩ : ∃ P : Int32 × mF × mF × mF × mF → Prop, (∀ (q : Int32) (q0 : mF) (q1 : mF) (q2 : mF) (q3 : mF), P (q, q0, q1, q2, q3) → Q (none) (mH B (mE v [(t, q0), (t + 1, q1), (t + 2, q2), (t + 3, q3), (t2, f_oth), (t2 + 1, f_oth_process), (t2 + 2, f_oth_time), (t2 + 3, f_oth_isBy)]) w)) ∧ P (FX6_copy f_this f_process f_time f_isBy f_oth f_oth_process f_oth_time f_oth_isBy) := ⟨fun res => Q (none) (mH B (mE v [(t, res.2.1), (t + 1, res.2.2.1), (t + 2, res.2.2.2.1), (t + 3, res.2.2.2.2), (t2, f_oth), (t2 + 1, f_oth_process), (t2 + 2, f_oth_time), (t2 + 3, f_oth_isBy)]) w), fun _ _ _ _ _ h => h, hQ⟩
  refine r_begin mt_106 (by intro a ha; simp only [List.mem_cons, List.not_mem_nil, or_false] at ha; rcases ha with rfl | rfl <;> rfl) (Nat.le_of_ble_eq_true rfl) ?_
  rw [FX6_copy] at hP
  rw [OX6_copy] at hO
  show RB _ _ _ _ [some (.ref t), some (.ref t2)] [] _ _
  refine r_aload rfl ?_
  refine r_aload rfl ?_
  refine r_get (x := f_oth 0) 4 (hn _ _ _ _ _ _ _ _) rfl hB2.1 (by decide) rfl ?_
  refine r_put (env' := [(t, (upd f_this 0 (f_oth 0))), (t + 1, f_process), (t + 2, f_time), (t + 3, f_isBy), (t2, f_oth), (t2 + 1, f_oth_process), (t2 + 2, f_oth_time), (t2 + 3, f_oth_isBy)]) 0 (hn _ _ _ _ _ _ _ _) rfl rfl hB.1 ?_
  refine r_aload rfl ?_
  refine r_getr (q := t2 + 1) hB2.1 hB2.2.2.2.2.1 ?_
  refine r_int ?_
  refine r_aload rfl ?_
  refine r_getr (q := t + 1) hB.1 hB.2.2.2.2.1 ?_
  refine r_int ?_
  refine r_int ?_
  refine r_copy (env' := [(t, (upd f_this 0 (f_oth 0))), (t + 1, (va_cpy f_oth_process f_process 0 0 12)), (t + 2, f_time), (t + 3, f_isBy), (t2, f_oth), (t2 + 1, f_oth_process), (t2 + 2, f_oth_time), (t2 + 3, f_oth_isBy)]) 5 1 (hn _ _ _ _ _ _ _ _) rfl rfl hB2.2.1 hB.2.1 (by decide) (by decide) (by decide) (by decide) (by decide) (by decide) (by decide) (fun _ _ => rfl) (Nat.le_of_ble_eq_true rfl) rfl ?_
  refine r_aload rfl ?_
  refine r_getr (q := t2 + 2) hB2.1 hB2.2.2.2.2.2.1 ?_
  refine r_int ?_
  refine r_aload rfl ?_
  refine r_getr (q := t + 2) hB.1 hB.2.2.2.2.2.1 ?_
  refine r_int ?_
  refine r_int ?_
  refine r_copy (env' := [(t, (upd f_this 0 (f_oth 0))), (t + 1, (va_cpy f_oth_process f_process 0 0 12)), (t + 2, (va_cpy f_oth_time f_time 0 0 12)), (t + 3, f_isBy), (t2, f_oth), (t2 + 1, f_oth_process), (t2 + 2, f_oth_time), (t2 + 3, f_oth_isBy)]) 6 2 (hn _ _ _ _ _ _ _ _) rfl rfl hB2.2.2.1 hB.2.2.1 (by decide) (by decide) (by decide) (by decide) (by decide) (by decide) (by decide) (fun _ _ => rfl) (Nat.le_of_ble_eq_true rfl) rfl ?_
  refine r_aload rfl ?_
  refine r_getr (q := t2 + 3) hB2.1 hB2.2.2.2.2.2.2 ?_
  refine r_int ?_
  refine r_aload rfl ?_
  refine r_getr (q := t + 3) hB.1 hB.2.2.2.2.2.2 ?_
  refine r_int ?_
  refine r_int ?_
  have h1 := hO
  refine r_copy (env' := [(t, (upd f_this 0 (f_oth 0))), (t + 1, (va_cpy f_oth_process f_process 0 0 12)), (t + 2, (va_cpy f_oth_time f_time 0 0 12)), (t + 3, (va_cpy f_oth_isBy f_isBy 0 0 12)), (t2, f_oth), (t2 + 1, f_oth_process), (t2 + 2, f_oth_time), (t2 + 3, f_oth_isBy)]) 7 3 (hn _ _ _ _ _ _ _ _) rfl rfl hB2.2.2.2.1 hB.2.2.2.1 (by decide) (by decide) (by decide) (by decide) (by decide) (by decide) (by decide) h1 (Nat.le_of_ble_eq_true rfl) rfl ?_
  exact r_retv rfl (hPQ 0 (upd f_this 0 (f_oth 0)) (va_cpy f_oth_process f_process 0 0 12) (va_cpy f_oth_time f_time 0 0 12) (va_cpy f_oth_isBy f_isBy 0 0 12) hP)

def FX4_setWord (x1 : Int32) (x2 : Int32) (x3 : Int32) (f_memory : mF) : Int32 × mF :=
  let g2 := upd f_memory (((x1 * 96) + x2 : Int32).toNatClampNeg) x3; (0, g2)
def OX4_setWord (x1 : Int32) (x2 : Int32) (x3 : Int32) (f_memory : mF) : Prop :=
  vp_in ((x1 * 96) + x2) 192
set_option maxRecDepth 20000 in
theorem tX4_setWord {d : Nat} {B : mB} {v : mV} {w : mX} {Q : Option Int32 → mMH → Prop} {pg : Nat} (hB : isPrg B pg) (x1 : Int32) (x2 : Int32) (x3 : Int32) (f_memory : mF) (hO : OX4_setWord x1 x2 x3 f_memory) (hQ : Q (none) (mH B (mE v [(pg + 13, (FX4_setWord x1 x2 x3 f_memory).2)]) w)) : CQ (d + 1) 70 [.ref pg, .int x1, .int x2, .int x3] (mH B (mE v [(pg + 13, f_memory)]) w) Q := by
  have hn : ∀ (f_memory : mF), mNd [(pg + 13, f_memory)] := fun _ => by
    show List.Nodup _
    simp only [List.map_cons, List.map_nil, List.nodup_cons, List.mem_cons, List.not_mem_nil, or_false, not_or, not_false_eq_true, List.nodup_nil, and_true]
  obtain ⟨P, hPQ, hP⟩ : ∃ P : Int32 × mF → Prop, (∀ (q : Int32) (q0 : mF), P (q, q0) → Q (none) (mH B (mE v [(pg + 13, q0)]) w)) ∧ P (FX4_setWord x1 x2 x3 f_memory) := ⟨fun res => Q (none) (mH B (mE v [(pg + 13, res.2)]) w), fun _ _ h => h, hQ⟩
  refine r_begin mt_70 (by intro a ha; simp only [List.mem_cons, List.not_mem_nil, or_false] at ha; rcases ha with rfl | rfl | rfl | rfl <;> rfl) (Nat.le_of_ble_eq_true rfl) ?_
  rw [FX4_setWord] at hP
  rw [OX4_setWord] at hO
  show RB _ _ _ _ [some (.ref pg), some (.int x1), some (.int x2), some (.int x3)] [] _ _
  refine r_aload rfl ?_
  refine r_getr (q := pg + 13) hB.1 hB.2.2.2.2.2.2.2.2.2.2.2.2.2.2.2.2.2.2.2.2.2.2.2.2.2.2 ?_
  refine r_iload rfl ?_
  refine r_int ?_
  refine r_imul ?_
  refine r_iload rfl ?_
  refine r_iadd ?_
  refine r_iload rfl ?_
  have h1 := hO
  refine r_ast (y := x3) (env' := [(pg + 13, (upd f_memory (((x1 * 96) + x2 : Int32).toNatClampNeg) x3))]) 0 (((x1 * 96) + x2 : Int32).toNatClampNeg) (hn _) rfl hB.2.2.2.2.2.2.2.2.2.2.2.2.2.1 (by decide) rfl h1 rfl rfl rfl ?_
  generalize hg_g2 : upd f_memory (((x1 * 96) + x2 : Int32).toNatClampNeg) x3 = g2 at hP ⊢
  try dsimp only at hP
  exact r_retv rfl (hPQ 0 g2 hP)

def FX4_addLabel (x1 : Int32) (f_this : mF) (f_labelName : mF) (f_labelAt : mF) : Int32 × mF × mF × mF :=
  if 101 ≤ (f_this 4) then ((0, f_this, f_labelName, f_labelAt)) else (let g3 := upd f_labelName ((f_this 4 : Int32).toNatClampNeg) x1; let g5 := upd f_labelAt ((f_this 4 : Int32).toNatClampNeg) (f_this 1); (0, (upd f_this 4 ((f_this 4) + 1)), g3, g5))
def OX4_addLabel (x1 : Int32) (f_this : mF) (f_labelName : mF) (f_labelAt : mF) : Prop :=
  (101 ≤ (f_this 4) → True) ∧ (¬ (101 ≤ (f_this 4)) → (vp_in (f_this 4) 101 ∧ (let g3 := upd f_labelName ((f_this 4 : Int32).toNatClampNeg) x1; vp_in (f_this 4) 101)))
set_option maxRecDepth 20000 in
theorem tX4_addLabel {d : Nat} {B : mB} {v : mV} {w : mX} {Q : Option Int32 → mMH → Prop} {pg : Nat} (hB : isPrg B pg) (x1 : Int32) (f_this : mF) (f_labelName : mF) (f_labelAt : mF) (hO : OX4_addLabel x1 f_this f_labelName f_labelAt) (hQ : Q (none) (mH B (mE v [(pg, (FX4_addLabel x1 f_this f_labelName f_labelAt).2.1), (pg + 3, (FX4_addLabel x1 f_this f_labelName f_labelAt).2.2.1), (pg + 4, (FX4_addLabel x1 f_this f_labelName f_labelAt).2.2.2)]) w)) : CQ (d + 1) 71 [.ref pg, .int x1] (mH B (mE v [(pg, f_this), (pg + 3, f_labelName), (pg + 4, f_labelAt)]) w) Q := by
  have hn : ∀ (f_this : mF) (f_labelName : mF) (f_labelAt : mF), mNd [(pg, f_this), (pg + 3, f_labelName), (pg + 4, f_labelAt)] := fun _ _ _ => by
    show List.Nodup _
    simp only [List.map_cons, List.map_nil, List.nodup_cons, List.mem_cons, List.not_mem_nil, or_false, not_or, not_false_eq_true, List.nodup_nil, and_true]
    omega
  obtain ⟨P, hPQ, hP⟩ : ∃ P : Int32 × mF × mF × mF → Prop, (∀ (q : Int32) (q0 : mF) (q1 : mF) (q2 : mF), P (q, q0, q1, q2) → Q (none) (mH B (mE v [(pg, q0), (pg + 3, q1), (pg + 4, q2)]) w)) ∧ P (FX4_addLabel x1 f_this f_labelName f_labelAt) := ⟨fun res => Q (none) (mH B (mE v [(pg, res.2.1), (pg + 3, res.2.2.1), (pg + 4, res.2.2.2)]) w), fun _ _ _ _ h => h, hQ⟩
  refine r_begin mt_71 (by intro a ha; simp only [List.mem_cons, List.not_mem_nil, or_false] at ha; rcases ha with rfl | rfl <;> rfl) (Nat.le_of_ble_eq_true rfl) ?_
  rw [FX4_addLabel] at hP
  rw [OX4_addLabel] at hO
  show RB _ _ _ _ [some (.ref pg), some (.int x1)] [] _ _
  refine r_aload rfl ?_
  refine r_get (x := f_this 4) 0 (hn _ _ _) rfl hB.1 (by decide) rfl ?_
  refine r_aload rfl ?_
  refine r_getr (q := pg + 3) hB.1 hB.2.2.2.2.2.2.2.2.2.2.2.2.2.2.2.2.1 ?_
  refine r_alen (x := 101) hB.2.2.2.1 (by decide) (by decide) rfl ?_
  refine r_icmp (fun c1 : 101 ≤ (f_this 4) => ?_) (fun c1 : ¬ (101 ≤ (f_this 4)) => ?_)
  · rw [if_pos c1] at hP
    have hO := hO.1 c1
    exact r_retv rfl (hPQ 0 f_this f_labelName f_labelAt hP)
  · rw [if_neg c1] at hP
    have hO := hO.2 c1
    refine r_aload rfl ?_
    refine r_getr (q := pg + 3) hB.1 hB.2.2.2.2.2.2.2.2.2.2.2.2.2.2.2.2.1 ?_
    refine r_aload rfl ?_
    refine r_get (x := f_this 4) 0 (hn _ _ _) rfl hB.1 (by decide) rfl ?_
    refine r_iload rfl ?_
    obtain ⟨h2, hO⟩ := hO
    refine r_ast (y := x1) (env' := [(pg, f_this), (pg + 3, (upd f_labelName ((f_this 4 : Int32).toNatClampNeg) x1)), (pg + 4, f_labelAt)]) 1 ((f_this 4 : Int32).toNatClampNeg) (hn _ _ _) rfl hB.2.2.2.1 (by decide) rfl h2 rfl rfl rfl ?_
    generalize hg_g3 : upd f_labelName ((f_this 4 : Int32).toNatClampNeg) x1 = g3 at hP hO ⊢
    try dsimp only at hP hO
    refine r_aload rfl ?_
    refine r_getr (q := pg + 4) hB.1 hB.2.2.2.2.2.2.2.2.2.2.2.2.2.2.2.2.2.1 ?_
    refine r_aload rfl ?_
    refine r_get (x := f_this 4) 0 (hn _ _ _) rfl hB.1 (by decide) rfl ?_
    refine r_aload rfl ?_
    refine r_get (x := f_this 1) 0 (hn _ _ _) rfl hB.1 (by decide) rfl ?_
    have h4 := hO
    refine r_ast (y := f_this 1) (env' := [(pg, f_this), (pg + 3, g3), (pg + 4, (upd f_labelAt ((f_this 4 : Int32).toNatClampNeg) (f_this 1)))]) 2 ((f_this 4 : Int32).toNatClampNeg) (hn _ _ _) rfl hB.2.2.2.2.1 (by decide) rfl h4 rfl rfl rfl ?_
    generalize hg_g5 : upd f_labelAt ((f_this 4 : Int32).toNatClampNeg) (f_this 1) = g5 at hP ⊢
    try dsimp only at hP
    refine r_aload rfl ?_
    refine r_dup rfl ?_
    refine r_get (x := f_this 4) 0 (hn _ _ _) rfl hB.1 (by decide) rfl ?_
    refine r_int ?_
    refine r_iadd ?_
    refine r_put (env' := [(pg, (upd f_this 4 ((f_this 4) + 1))), (pg + 3, g3), (pg + 4, g5)]) 0 (hn _ _ _) rfl rfl hB.1 ?_
    refine r_fall ?_
    exact r_retv rfl (hPQ 0 (upd f_this 4 ((f_this 4) + 1)) g3 g5 hP)

def FX4_addInstruction (x1 : Int32) (x2 : Int32) (f_this : mF) (f_op : mF) (f_number : mF) : Int32 × mF × mF × mF :=
  if 100 ≤ (f_this 1) then ((0, f_this, f_op, f_number)) else (let g3 := upd f_op ((f_this 1 : Int32).toNatClampNeg) x1; let g5 := upd f_number ((f_this 1 : Int32).toNatClampNeg) x2; (0, (upd f_this 1 ((f_this 1) + 1)), g3, g5))
def OX4_addInstruction (x1 : Int32) (x2 : Int32) (f_this : mF) (f_op : mF) (f_number : mF) : Prop :=
  (100 ≤ (f_this 1) → True) ∧ (¬ (100 ≤ (f_this 1)) → (vp_in (f_this 1) 100 ∧ (let g3 := upd f_op ((f_this 1 : Int32).toNatClampNeg) x1; vp_in (f_this 1) 100)))
set_option maxRecDepth 20000 in
theorem tX4_addInstruction {d : Nat} {B : mB} {v : mV} {w : mX} {Q : Option Int32 → mMH → Prop} {pg : Nat} (hB : isPrg B pg) (x1 : Int32) (x2 : Int32) (f_this : mF) (f_op : mF) (f_number : mF) (hO : OX4_addInstruction x1 x2 f_this f_op f_number) (hQ : Q (none) (mH B (mE v [(pg, (FX4_addInstruction x1 x2 f_this f_op f_number).2.1), (pg + 1, (FX4_addInstruction x1 x2 f_this f_op f_number).2.2.1), (pg + 2, (FX4_addInstruction x1 x2 f_this f_op f_number).2.2.2)]) w)) : CQ (d + 1) 72 [.ref pg, .int x1, .int x2] (mH B (mE v [(pg, f_this), (pg + 1, f_op), (pg + 2, f_number)]) w) Q := by
  have hn : ∀ (f_this : mF) (f_op : mF) (f_number : mF), mNd [(pg, f_this), (pg + 1, f_op), (pg + 2, f_number)] := fun _ _ _ => by
    show List.Nodup _
    simp only [List.map_cons, List.map_nil, List.nodup_cons, List.mem_cons, List.not_mem_nil, or_false, not_or, not_false_eq_true, List.nodup_nil, and_true]
    omega
  obtain ⟨P, hPQ, hP⟩ : ∃ P : Int32 × mF × mF × mF → Prop, (∀ (q : Int32) (q0 : mF) (q1 : mF) (q2 : mF), P (q, q0, q1, q2) → Q (none) (mH B (mE v [(pg, q0), (pg + 1, q1), (pg + 2, q2)]) w)) ∧ P (FX4_addInstruction x1 x2 f_this f_op f_number) := ⟨fun res => Q (none) (mH B (mE v [(pg, res.2.1), (pg + 1, res.2.2.1), (pg + 2, res.2.2.2)]) w), fun _ _ _ _ h => h, hQ⟩
  refine r_begin mt_72 (by intro a ha; simp only [List.mem_cons, List.not_mem_nil, or_false] at ha; rcases ha with rfl | rfl | rfl <;> rfl) (Nat.le_of_ble_eq_true rfl) ?_
  rw [FX4_addInstruction] at hP
  rw [OX4_addInstruction] at hO
  show RB _ _ _ _ [some (.ref pg), some (.int x1), some (.int x2)] [] _ _
  refine r_aload rfl ?_
  refine r_get (x := f_this 1) 0 (hn _ _ _) rfl hB.1 (by decide) rfl ?_
  refine r_int ?_
  refine r_icmp (fun c1 : 100 ≤ (f_this 1) => ?_) (fun c1 : ¬ (100 ≤ (f_this 1)) => ?_)
  · rw [if_pos c1] at hP
    have hO := hO.1 c1
    exact r_retv rfl (hPQ 0 f_this f_op f_number hP)
  · rw [if_neg c1] at hP
    have hO := hO.2 c1
    refine r_aload rfl ?_
    refine r_getr (q := pg + 1) hB.1 hB.2.2.2.2.2.2.2.2.2.2.2.2.2.2.1 ?_
    refine r_aload rfl ?_
    refine r_get (x := f_this 1) 0 (hn _ _ _) rfl hB.1 (by decide) rfl ?_
    refine r_iload rfl ?_
    obtain ⟨h2, hO⟩ := hO
    refine r_ast (y := x1) (env' := [(pg, f_this), (pg + 1, (upd f_op ((f_this 1 : Int32).toNatClampNeg) x1)), (pg + 2, f_number)]) 1 ((f_this 1 : Int32).toNatClampNeg) (hn _ _ _) rfl hB.2.1 (by decide) rfl h2 rfl rfl rfl ?_
    generalize hg_g3 : upd f_op ((f_this 1 : Int32).toNatClampNeg) x1 = g3 at hP hO ⊢
    try dsimp only at hP hO
    refine r_aload rfl ?_
    refine r_getr (q := pg + 2) hB.1 hB.2.2.2.2.2.2.2.2.2.2.2.2.2.2.2.1 ?_
    refine r_aload rfl ?_
    refine r_get (x := f_this 1) 0 (hn _ _ _) rfl hB.1 (by decide) rfl ?_
    refine r_iload rfl ?_
    have h4 := hO
    refine r_ast (y := x2) (env' := [(pg, f_this), (pg + 1, g3), (pg + 2, (upd f_number ((f_this 1 : Int32).toNatClampNeg) x2))]) 2 ((f_this 1 : Int32).toNatClampNeg) (hn _ _ _) rfl hB.2.2.1 (by decide) rfl h4 rfl rfl rfl ?_
    generalize hg_g5 : upd f_number ((f_this 1 : Int32).toNatClampNeg) x2 = g5 at hP ⊢
    try dsimp only at hP
    refine r_aload rfl ?_
    refine r_dup rfl ?_
    refine r_get (x := f_this 1) 0 (hn _ _ _) rfl hB.1 (by decide) rfl ?_
    refine r_int ?_
    refine r_iadd ?_
    refine r_put (env' := [(pg, (upd f_this 1 ((f_this 1) + 1))), (pg + 1, g3), (pg + 2, g5)]) 0 (hn _ _ _) rfl rfl hB.1 ?_
    refine r_fall ?_
    exact r_retv rfl (hPQ 0 (upd f_this 1 ((f_this 1) + 1)) g3 g5 hP)

def FX4_addJoin (x1 : Int32) (x2 : Int32) (x3 : Int32) (x4 : Int32) (f_this : mF) (f_sender : mF) (f_sendLink : mF) (f_receiver : mF) (f_receiveLink : mF) : Int32 × mF × mF × mF × mF × mF :=
  if 4 ≤ (f_this 7) then ((0, f_this, f_sender, f_sendLink, f_receiver, f_receiveLink)) else (let g3 := upd f_sender ((f_this 7 : Int32).toNatClampNeg) x1; let g5 := upd f_sendLink ((f_this 7 : Int32).toNatClampNeg) x2; let g7 := upd f_receiver ((f_this 7 : Int32).toNatClampNeg) x3; let g9 := upd f_receiveLink ((f_this 7 : Int32).toNatClampNeg) x4; (0, (upd f_this 7 ((f_this 7) + 1)), g3, g5, g7, g9))
def OX4_addJoin (x1 : Int32) (x2 : Int32) (x3 : Int32) (x4 : Int32) (f_this : mF) (f_sender : mF) (f_sendLink : mF) (f_receiver : mF) (f_receiveLink : mF) : Prop :=
  (4 ≤ (f_this 7) → True) ∧ (¬ (4 ≤ (f_this 7)) → (vp_in (f_this 7) 4 ∧ (let g3 := upd f_sender ((f_this 7 : Int32).toNatClampNeg) x1; vp_in (f_this 7) 4 ∧ (let g5 := upd f_sendLink ((f_this 7 : Int32).toNatClampNeg) x2; vp_in (f_this 7) 4 ∧ (let g7 := upd f_receiver ((f_this 7 : Int32).toNatClampNeg) x3; vp_in (f_this 7) 4)))))
set_option maxRecDepth 20000 in
theorem tX4_addJoin {d : Nat} {B : mB} {v : mV} {w : mX} {Q : Option Int32 → mMH → Prop} {pg : Nat} (hB : isPrg B pg) (x1 : Int32) (x2 : Int32) (x3 : Int32) (x4 : Int32) (f_this : mF) (f_sender : mF) (f_sendLink : mF) (f_receiver : mF) (f_receiveLink : mF) (hO : OX4_addJoin x1 x2 x3 x4 f_this f_sender f_sendLink f_receiver f_receiveLink) (hQ : Q (none) (mH B (mE v [(pg, (FX4_addJoin x1 x2 x3 x4 f_this f_sender f_sendLink f_receiver f_receiveLink).2.1), (pg + 5, (FX4_addJoin x1 x2 x3 x4 f_this f_sender f_sendLink f_receiver f_receiveLink).2.2.1), (pg + 6, (FX4_addJoin x1 x2 x3 x4 f_this f_sender f_sendLink f_receiver f_receiveLink).2.2.2.1), (pg + 7, (FX4_addJoin x1 x2 x3 x4 f_this f_sender f_sendLink f_receiver f_receiveLink).2.2.2.2.1), (pg + 8, (FX4_addJoin x1 x2 x3 x4 f_this f_sender f_sendLink f_receiver f_receiveLink).2.2.2.2.2)]) w)) : CQ (d + 1) 73 [.ref pg, .int x1, .int x2, .int x3, .int x4] (mH B (mE v [(pg, f_this), (pg + 5, f_sender), (pg + 6, f_sendLink), (pg + 7, f_receiver), (pg + 8, f_receiveLink)]) w) Q := by
  have hn : ∀ (f_this : mF) (f_sender : mF) (f_sendLink : mF) (f_receiver : mF) (f_receiveLink : mF), mNd [(pg, f_this), (pg + 5, f_sender), (pg + 6, f_sendLink), (pg + 7, f_receiver), (pg + 8, f_receiveLink)] := fun _ _ _ _ _ => by
    show List.Nodup _
    simp only [List.map_cons, List.map_nil, List.nodup_cons, List.mem_cons, List.not_mem_nil, or_false, not_or, not_false_eq_true, List.nodup_nil, and_true]
    omega
  obtain ⟨P, hPQ, hP⟩ : ∃ P : Int32 × mF × mF × mF × mF × mF → Prop, (∀ (q : Int32) (q0 : mF) (q1 : mF) (q2 : mF) (q3 : mF) (q4 : mF), P (q, q0, q1, q2, q3, q4) → Q (none) (mH B (mE v [(pg, q0), (pg + 5, q1), (pg + 6, q2), (pg + 7, q3), (pg + 8, q4)]) w)) ∧ P (FX4_addJoin x1 x2 x3 x4 f_this f_sender f_sendLink f_receiver f_receiveLink) := ⟨fun res => Q (none) (mH B (mE v [(pg, res.2.1), (pg + 5, res.2.2.1), (pg + 6, res.2.2.2.1), (pg + 7, res.2.2.2.2.1), (pg + 8, res.2.2.2.2.2)]) w), fun _ _ _ _ _ _ h => h, hQ⟩
  refine r_begin mt_73 (by intro a ha; simp only [List.mem_cons, List.not_mem_nil, or_false] at ha; rcases ha with rfl | rfl | rfl | rfl | rfl <;> rfl) (Nat.le_of_ble_eq_true rfl) ?_
  rw [FX4_addJoin] at hP
  rw [OX4_addJoin] at hO
  show RB _ _ _ _ [some (.ref pg), some (.int x1), some (.int x2), some (.int x3), some (.int x4)] [] _ _
  refine r_aload rfl ?_
  refine r_get (x := f_this 7) 0 (hn _ _ _ _ _) rfl hB.1 (by decide) rfl ?_
  refine r_int ?_
  refine r_icmp (fun c1 : 4 ≤ (f_this 7) => ?_) (fun c1 : ¬ (4 ≤ (f_this 7)) => ?_)
  · rw [if_pos c1] at hP
    have hO := hO.1 c1
    exact r_retv rfl (hPQ 0 f_this f_sender f_sendLink f_receiver f_receiveLink hP)
  · rw [if_neg c1] at hP
    have hO := hO.2 c1
    refine r_aload rfl ?_
    refine r_getr (q := pg + 5) hB.1 hB.2.2.2.2.2.2.2.2.2.2.2.2.2.2.2.2.2.2.1 ?_
    refine r_aload rfl ?_
    refine r_get (x := f_this 7) 0 (hn _ _ _ _ _) rfl hB.1 (by decide) rfl ?_
    refine r_iload rfl ?_
    obtain ⟨h2, hO⟩ := hO
    refine r_ast (y := x1) (env' := [(pg, f_this), (pg + 5, (upd f_sender ((f_this 7 : Int32).toNatClampNeg) x1)), (pg + 6, f_sendLink), (pg + 7, f_receiver), (pg + 8, f_receiveLink)]) 1 ((f_this 7 : Int32).toNatClampNeg) (hn _ _ _ _ _) rfl hB.2.2.2.2.2.1 (by decide) rfl h2 rfl rfl rfl ?_
    generalize hg_g3 : upd f_sender ((f_this 7 : Int32).toNatClampNeg) x1 = g3 at hP hO ⊢
    try dsimp only at hP hO
    refine r_aload rfl ?_
    refine r_getr (q := pg + 6) hB.1 hB.2.2.2.2.2.2.2.2.2.2.2.2.2.2.2.2.2.2.2.1 ?_
    refine r_aload rfl ?_
    refine r_get (x := f_this 7) 0 (hn _ _ _ _ _) rfl hB.1 (by decide) rfl ?_
    refine r_iload rfl ?_
    obtain ⟨h4, hO⟩ := hO
    refine r_ast (y := x2) (env' := [(pg, f_this), (pg + 5, g3), (pg + 6, (upd f_sendLink ((f_this 7 : Int32).toNatClampNeg) x2)), (pg + 7, f_receiver), (pg + 8, f_receiveLink)]) 2 ((f_this 7 : Int32).toNatClampNeg) (hn _ _ _ _ _) rfl hB.2.2.2.2.2.2.1 (by decide) rfl h4 rfl rfl rfl ?_
    generalize hg_g5 : upd f_sendLink ((f_this 7 : Int32).toNatClampNeg) x2 = g5 at hP hO ⊢
    try dsimp only at hP hO
    refine r_aload rfl ?_
    refine r_getr (q := pg + 7) hB.1 hB.2.2.2.2.2.2.2.2.2.2.2.2.2.2.2.2.2.2.2.2.1 ?_
    refine r_aload rfl ?_
    refine r_get (x := f_this 7) 0 (hn _ _ _ _ _) rfl hB.1 (by decide) rfl ?_
    refine r_iload rfl ?_
    obtain ⟨h6, hO⟩ := hO
    refine r_ast (y := x3) (env' := [(pg, f_this), (pg + 5, g3), (pg + 6, g5), (pg + 7, (upd f_receiver ((f_this 7 : Int32).toNatClampNeg) x3)), (pg + 8, f_receiveLink)]) 3 ((f_this 7 : Int32).toNatClampNeg) (hn _ _ _ _ _) rfl hB.2.2.2.2.2.2.2.1 (by decide) rfl h6 rfl rfl rfl ?_
    generalize hg_g7 : upd f_receiver ((f_this 7 : Int32).toNatClampNeg) x3 = g7 at hP hO ⊢
    try dsimp only at hP hO
    refine r_aload rfl ?_
    refine r_getr (q := pg + 8) hB.1 hB.2.2.2.2.2.2.2.2.2.2.2.2.2.2.2.2.2.2.2.2.2.1 ?_
    refine r_aload rfl ?_
    refine r_get (x := f_this 7) 0 (hn _ _ _ _ _) rfl hB.1 (by decide) rfl ?_
    refine r_iload rfl ?_
    have h8 := hO
    refine r_ast (y := x4) (env' := [(pg, f_this), (pg + 5, g3), (pg + 6, g5), (pg + 7, g7), (pg + 8, (upd f_receiveLink ((f_this 7 : Int32).toNatClampNeg) x4))]) 4 ((f_this 7 : Int32).toNatClampNeg) (hn _ _ _ _ _) rfl hB.2.2.2.2.2.2.2.2.1 (by decide) rfl h8 rfl rfl rfl ?_
    generalize hg_g9 : upd f_receiveLink ((f_this 7 : Int32).toNatClampNeg) x4 = g9 at hP ⊢
    try dsimp only at hP
    refine r_aload rfl ?_
    refine r_dup rfl ?_
    refine r_get (x := f_this 7) 0 (hn _ _ _ _ _) rfl hB.1 (by decide) rfl ?_
    refine r_int ?_
    refine r_iadd ?_
    refine r_put (env' := [(pg, (upd f_this 7 ((f_this 7) + 1))), (pg + 5, g3), (pg + 6, g5), (pg + 7, g7), (pg + 8, g9)]) 0 (hn _ _ _ _ _) rfl rfl hB.1 ?_
    refine r_fall ?_
    exact r_retv rfl (hPQ 0 (upd f_this 7 ((f_this 7) + 1)) g3 g5 g7 g9 hP)

def FX4_addRun (x1 : Int32) (x2 : Int32) (x3 : Int32) (f_this : mF) (f_runMachine : mF) (f_runW : mF) (f_runPriority : mF) (f_runAt : mF) : Int32 × mF × mF × mF × mF × mF :=
  if 12 ≤ (f_this 12) then ((0, f_this, f_runMachine, f_runW, f_runPriority, f_runAt)) else (let g3 := upd f_runMachine ((f_this 12 : Int32).toNatClampNeg) x1; let g5 := upd f_runW ((f_this 12 : Int32).toNatClampNeg) x2; let g7 := upd f_runPriority ((f_this 12 : Int32).toNatClampNeg) x3; let g9 := upd f_runAt ((f_this 12 : Int32).toNatClampNeg) 0; (0, (upd f_this 12 ((f_this 12) + 1)), g3, g5, g7, g9))
def OX4_addRun (x1 : Int32) (x2 : Int32) (x3 : Int32) (f_this : mF) (f_runMachine : mF) (f_runW : mF) (f_runPriority : mF) (f_runAt : mF) : Prop :=
  (12 ≤ (f_this 12) → True) ∧ (¬ (12 ≤ (f_this 12)) → (vp_in (f_this 12) 12 ∧ (let g3 := upd f_runMachine ((f_this 12 : Int32).toNatClampNeg) x1; vp_in (f_this 12) 12 ∧ (let g5 := upd f_runW ((f_this 12 : Int32).toNatClampNeg) x2; vp_in (f_this 12) 12 ∧ (let g7 := upd f_runPriority ((f_this 12 : Int32).toNatClampNeg) x3; vp_in (f_this 12) 12)))))
set_option maxRecDepth 20000 in
theorem tX4_addRun {d : Nat} {B : mB} {v : mV} {w : mX} {Q : Option Int32 → mMH → Prop} {pg : Nat} (hB : isPrg B pg) (x1 : Int32) (x2 : Int32) (x3 : Int32) (f_this : mF) (f_runMachine : mF) (f_runW : mF) (f_runPriority : mF) (f_runAt : mF) (hO : OX4_addRun x1 x2 x3 f_this f_runMachine f_runW f_runPriority f_runAt) (hQ : Q (none) (mH B (mE v [(pg, (FX4_addRun x1 x2 x3 f_this f_runMachine f_runW f_runPriority f_runAt).2.1), (pg + 9, (FX4_addRun x1 x2 x3 f_this f_runMachine f_runW f_runPriority f_runAt).2.2.1), (pg + 10, (FX4_addRun x1 x2 x3 f_this f_runMachine f_runW f_runPriority f_runAt).2.2.2.1), (pg + 11, (FX4_addRun x1 x2 x3 f_this f_runMachine f_runW f_runPriority f_runAt).2.2.2.2.1), (pg + 12, (FX4_addRun x1 x2 x3 f_this f_runMachine f_runW f_runPriority f_runAt).2.2.2.2.2)]) w)) : CQ (d + 1) 74 [.ref pg, .int x1, .int x2, .int x3] (mH B (mE v [(pg, f_this), (pg + 9, f_runMachine), (pg + 10, f_runW), (pg + 11, f_runPriority), (pg + 12, f_runAt)]) w) Q := by
  have hn : ∀ (f_this : mF) (f_runMachine : mF) (f_runW : mF) (f_runPriority : mF) (f_runAt : mF), mNd [(pg, f_this), (pg + 9, f_runMachine), (pg + 10, f_runW), (pg + 11, f_runPriority), (pg + 12, f_runAt)] := fun _ _ _ _ _ => by
    show List.Nodup _
    simp only [List.map_cons, List.map_nil, List.nodup_cons, List.mem_cons, List.not_mem_nil, or_false, not_or, not_false_eq_true, List.nodup_nil, and_true]
    omega
  obtain ⟨P, hPQ, hP⟩ : ∃ P : Int32 × mF × mF × mF × mF × mF → Prop, (∀ (q : Int32) (q0 : mF) (q1 : mF) (q2 : mF) (q3 : mF) (q4 : mF), P (q, q0, q1, q2, q3, q4) → Q (none) (mH B (mE v [(pg, q0), (pg + 9, q1), (pg + 10, q2), (pg + 11, q3), (pg + 12, q4)]) w)) ∧ P (FX4_addRun x1 x2 x3 f_this f_runMachine f_runW f_runPriority f_runAt) := ⟨fun res => Q (none) (mH B (mE v [(pg, res.2.1), (pg + 9, res.2.2.1), (pg + 10, res.2.2.2.1), (pg + 11, res.2.2.2.2.1), (pg + 12, res.2.2.2.2.2)]) w), fun _ _ _ _ _ _ h => h, hQ⟩
  refine r_begin mt_74 (by intro a ha; simp only [List.mem_cons, List.not_mem_nil, or_false] at ha; rcases ha with rfl | rfl | rfl | rfl <;> rfl) (Nat.le_of_ble_eq_true rfl) ?_
  rw [FX4_addRun] at hP
  rw [OX4_addRun] at hO
  show RB _ _ _ _ [some (.ref pg), some (.int x1), some (.int x2), some (.int x3)] [] _ _
  refine r_aload rfl ?_
  refine r_get (x := f_this 12) 0 (hn _ _ _ _ _) rfl hB.1 (by decide) rfl ?_
  refine r_int ?_
  refine r_icmp (fun c1 : 12 ≤ (f_this 12) => ?_) (fun c1 : ¬ (12 ≤ (f_this 12)) => ?_)
  · rw [if_pos c1] at hP
    have hO := hO.1 c1
    exact r_retv rfl (hPQ 0 f_this f_runMachine f_runW f_runPriority f_runAt hP)
  · rw [if_neg c1] at hP
    have hO := hO.2 c1
    refine r_aload rfl ?_
    refine r_getr (q := pg + 9) hB.1 hB.2.2.2.2.2.2.2.2.2.2.2.2.2.2.2.2.2.2.2.2.2.2.1 ?_
    refine r_aload rfl ?_
    refine r_get (x := f_this 12) 0 (hn _ _ _ _ _) rfl hB.1 (by decide) rfl ?_
    refine r_iload rfl ?_
    obtain ⟨h2, hO⟩ := hO
    refine r_ast (y := x1) (env' := [(pg, f_this), (pg + 9, (upd f_runMachine ((f_this 12 : Int32).toNatClampNeg) x1)), (pg + 10, f_runW), (pg + 11, f_runPriority), (pg + 12, f_runAt)]) 1 ((f_this 12 : Int32).toNatClampNeg) (hn _ _ _ _ _) rfl hB.2.2.2.2.2.2.2.2.2.1 (by decide) rfl h2 rfl rfl rfl ?_
    generalize hg_g3 : upd f_runMachine ((f_this 12 : Int32).toNatClampNeg) x1 = g3 at hP hO ⊢
    try dsimp only at hP hO
    refine r_aload rfl ?_
    refine r_getr (q := pg + 10) hB.1 hB.2.2.2.2.2.2.2.2.2.2.2.2.2.2.2.2.2.2.2.2.2.2.2.1 ?_
    refine r_aload rfl ?_
    refine r_get (x := f_this 12) 0 (hn _ _ _ _ _) rfl hB.1 (by decide) rfl ?_
    refine r_iload rfl ?_
    obtain ⟨h4, hO⟩ := hO
    refine r_ast (y := x2) (env' := [(pg, f_this), (pg + 9, g3), (pg + 10, (upd f_runW ((f_this 12 : Int32).toNatClampNeg) x2)), (pg + 11, f_runPriority), (pg + 12, f_runAt)]) 2 ((f_this 12 : Int32).toNatClampNeg) (hn _ _ _ _ _) rfl hB.2.2.2.2.2.2.2.2.2.2.1 (by decide) rfl h4 rfl rfl rfl ?_
    generalize hg_g5 : upd f_runW ((f_this 12 : Int32).toNatClampNeg) x2 = g5 at hP hO ⊢
    try dsimp only at hP hO
    refine r_aload rfl ?_
    refine r_getr (q := pg + 11) hB.1 hB.2.2.2.2.2.2.2.2.2.2.2.2.2.2.2.2.2.2.2.2.2.2.2.2.1 ?_
    refine r_aload rfl ?_
    refine r_get (x := f_this 12) 0 (hn _ _ _ _ _) rfl hB.1 (by decide) rfl ?_
    refine r_iload rfl ?_
    obtain ⟨h6, hO⟩ := hO
    refine r_ast (y := x3) (env' := [(pg, f_this), (pg + 9, g3), (pg + 10, g5), (pg + 11, (upd f_runPriority ((f_this 12 : Int32).toNatClampNeg) x3)), (pg + 12, f_runAt)]) 3 ((f_this 12 : Int32).toNatClampNeg) (hn _ _ _ _ _) rfl hB.2.2.2.2.2.2.2.2.2.2.2.1 (by decide) rfl h6 rfl rfl rfl ?_
    generalize hg_g7 : upd f_runPriority ((f_this 12 : Int32).toNatClampNeg) x3 = g7 at hP hO ⊢
    try dsimp only at hP hO
    refine r_aload rfl ?_
    refine r_getr (q := pg + 12) hB.1 hB.2.2.2.2.2.2.2.2.2.2.2.2.2.2.2.2.2.2.2.2.2.2.2.2.2.1 ?_
    refine r_aload rfl ?_
    refine r_get (x := f_this 12) 0 (hn _ _ _ _ _) rfl hB.1 (by decide) rfl ?_
    refine r_int ?_
    have h8 := hO
    refine r_ast (y := 0) (env' := [(pg, f_this), (pg + 9, g3), (pg + 10, g5), (pg + 11, g7), (pg + 12, (upd f_runAt ((f_this 12 : Int32).toNatClampNeg) 0))]) 4 ((f_this 12 : Int32).toNatClampNeg) (hn _ _ _ _ _) rfl hB.2.2.2.2.2.2.2.2.2.2.2.2.1 (by decide) rfl h8 rfl rfl rfl ?_
    generalize hg_g9 : upd f_runAt ((f_this 12 : Int32).toNatClampNeg) 0 = g9 at hP ⊢
    try dsimp only at hP
    refine r_aload rfl ?_
    refine r_dup rfl ?_
    refine r_get (x := f_this 12) 0 (hn _ _ _ _ _) rfl hB.1 (by decide) rfl ?_
    refine r_int ?_
    refine r_iadd ?_
    refine r_put (env' := [(pg, (upd f_this 12 ((f_this 12) + 1))), (pg + 9, g3), (pg + 10, g5), (pg + 11, g7), (pg + 12, g9)]) 0 (hn _ _ _ _ _) rfl rfl hB.1 ?_
    refine r_fall ?_
    exact r_retv rfl (hPQ 0 (upd f_this 12 ((f_this 12) + 1)) g3 g5 g7 g9 hP)

def FX4_placeOf_b1 : Nat → Int32 → Int32 → mF → mF → mF → Int32
  | 0, _, _, _, _, _ => 0
  | n + 1, y1, y2, f_this, f_labelName, f_labelAt =>
    if (f_this 4) ≤ y2 then ((-1)) else (if (f_labelName ((y2 : Int32).toNatClampNeg)) = y1 then ((f_labelAt ((y2 : Int32).toNatClampNeg))) else (FX4_placeOf_b1 n y1 (y2 + 1) f_this f_labelName f_labelAt))
def OX4_placeOf_b1 : Nat → Int32 → Int32 → mF → mF → mF → Prop
  | 0, _, _, _, _, _ => False
  | n + 1, y1, y2, f_this, f_labelName, f_labelAt =>
    ((f_this 4) ≤ y2 → True) ∧ (¬ ((f_this 4) ≤ y2) → (vp_in y2 101 ∧ (((f_labelName ((y2 : Int32).toNatClampNeg)) = y1 → (vp_in y2 101)) ∧ (¬ ((f_labelName ((y2 : Int32).toNatClampNeg)) = y1) → (OX4_placeOf_b1 n y1 (y2 + 1) f_this f_labelName f_labelAt)))))
set_option maxRecDepth 20000 in
theorem tX4_placeOf_b1 {d : Nat} {B : mB} {v : mV} {w : mX} {Q : Option Int32 → mMH → Prop} {pg : Nat} (hB : isPrg B pg) {P : Int32 → Prop} {f_this : mF} {f_labelName : mF} {f_labelAt : mF} (hPQ : ∀ (q : Int32), P q → Q (some q) (mH B (mE v [(pg, f_this), (pg + 3, f_labelName), (pg + 4, f_labelAt)]) w)) : ∀ (n : Nat) (y1 : Int32) (y2 : Int32), OX4_placeOf_b1 n y1 y2 f_this f_labelName f_labelAt → P (FX4_placeOf_b1 n y1 y2 f_this f_labelName f_labelAt) → RJ (d + 0) kX4_placeOf (some .int) 1 [some (.ref pg), some (.int y1), some (.int y2)] [] (mH B (mE v [(pg, f_this), (pg + 3, f_labelName), (pg + 4, f_labelAt)]) w) Q := by
  intro n
  induction n with
  | zero => exact fun _ _ hO => hO.elim
  | succ n ih1 =>
    intro y1 y2 hO hP
    rw [FX4_placeOf_b1] at hP
    rw [OX4_placeOf_b1] at hO
    have hn : ∀ (f_this : mF) (f_labelName : mF) (f_labelAt : mF), mNd [(pg, f_this), (pg + 3, f_labelName), (pg + 4, f_labelAt)] := fun _ _ _ => by
      show List.Nodup _
      simp only [List.map_cons, List.map_nil, List.nodup_cons, List.mem_cons, List.not_mem_nil, or_false, not_or, not_false_eq_true, List.nodup_nil, and_true]
      omega
    show RB _ _ _ _ [some (.ref pg), some (.int y1), some (.int y2)] [] _ _
    refine r_iload rfl ?_
    refine r_aload rfl ?_
    refine r_get (x := f_this 4) 0 (hn _ _ _) rfl hB.1 (by decide) rfl ?_
    refine r_icmp (fun c1 : (f_this 4) ≤ y2 => ?_) (fun c1 : ¬ ((f_this 4) ≤ y2) => ?_)
    · rw [if_pos c1] at hP
      have hO := hO.1 c1
      refine r_int ?_
      exact r_ret rfl rfl (hPQ (-1) hP)
    · rw [if_neg c1] at hP
      have hO := hO.2 c1
      refine r_aload rfl ?_
      refine r_getr (q := pg + 3) hB.1 hB.2.2.2.2.2.2.2.2.2.2.2.2.2.2.2.2.1 ?_
      refine r_iload rfl ?_
      obtain ⟨h2, hO⟩ := hO
      refine r_ald (x := f_labelName ((y2 : Int32).toNatClampNeg)) 1 ((y2 : Int32).toNatClampNeg) (hn _ _ _) rfl hB.2.2.2.1 (by decide) rfl h2 rfl rfl ?_
      refine r_iload rfl ?_
      refine r_icmp1 (fun c3 : (f_labelName ((y2 : Int32).toNatClampNeg)) = y1 => ?_) (fun c3 : ¬ ((f_labelName ((y2 : Int32).toNatClampNeg)) = y1) => ?_)
      · rw [if_pos c3] at hP
        have hO := hO.1 c3
        refine r_aload rfl ?_
        refine r_getr (q := pg + 4) hB.1 hB.2.2.2.2.2.2.2.2.2.2.2.2.2.2.2.2.2.1 ?_
        refine r_iload rfl ?_
        have h4 := hO
        refine r_ald (x := f_labelAt ((y2 : Int32).toNatClampNeg)) 2 ((y2 : Int32).toNatClampNeg) (hn _ _ _) rfl hB.2.2.2.2.1 (by decide) rfl h4 rfl rfl ?_
        exact r_ret rfl rfl (hPQ (f_labelAt ((y2 : Int32).toNatClampNeg)) hP)
      · rw [if_neg c3] at hP
        have hO := hO.2 c3
        refine r_iinc (L' := [some (.ref pg), some (.int y1), some (.int (y2 + 1))]) rfl rfl rfl ?_
        refine r_goto ?_
        exact ih1 y1 (y2 + 1) hO hP
def FX4_placeOf (x1 : Int32) (f_this : mF) (f_labelName : mF) (f_labelAt : mF) : Int32 :=
  FX4_placeOf_b1 10000 x1 0 f_this f_labelName f_labelAt
def OX4_placeOf (x1 : Int32) (f_this : mF) (f_labelName : mF) (f_labelAt : mF) : Prop :=
  OX4_placeOf_b1 10000 x1 0 f_this f_labelName f_labelAt
set_option maxRecDepth 20000 in
theorem tX4_placeOf {d : Nat} {B : mB} {v : mV} {w : mX} {Q : Option Int32 → mMH → Prop} {pg : Nat} (hB : isPrg B pg) (x1 : Int32) (f_this : mF) (f_labelName : mF) (f_labelAt : mF) (hO : OX4_placeOf x1 f_this f_labelName f_labelAt) (hQ : Q (some (FX4_placeOf x1 f_this f_labelName f_labelAt)) (mH B (mE v [(pg, f_this), (pg + 3, f_labelName), (pg + 4, f_labelAt)]) w)) : CQ (d + 1) 75 [.ref pg, .int x1] (mH B (mE v [(pg, f_this), (pg + 3, f_labelName), (pg + 4, f_labelAt)]) w) Q := by
  have hn : ∀ (f_this : mF) (f_labelName : mF) (f_labelAt : mF), mNd [(pg, f_this), (pg + 3, f_labelName), (pg + 4, f_labelAt)] := fun _ _ _ => by
    show List.Nodup _
    simp only [List.map_cons, List.map_nil, List.nodup_cons, List.mem_cons, List.not_mem_nil, or_false, not_or, not_false_eq_true, List.nodup_nil, and_true]
    omega
  obtain ⟨P, hPQ, hP⟩ : ∃ P : Int32 → Prop, (∀ (q : Int32), P q → Q (some q) (mH B (mE v [(pg, f_this), (pg + 3, f_labelName), (pg + 4, f_labelAt)]) w)) ∧ P (FX4_placeOf x1 f_this f_labelName f_labelAt) := ⟨fun res => Q (some res) (mH B (mE v [(pg, f_this), (pg + 3, f_labelName), (pg + 4, f_labelAt)]) w), fun _ h => h, hQ⟩
  refine r_begin mt_75 (by intro a ha; simp only [List.mem_cons, List.not_mem_nil, or_false] at ha; rcases ha with rfl | rfl <;> rfl) (Nat.le_of_ble_eq_true rfl) ?_
  rw [FX4_placeOf] at hP
  rw [OX4_placeOf] at hO
  show RB _ _ _ _ [some (.ref pg), some (.int x1), none] [] _ _
  refine r_int ?_
  refine r_istore (L' := [some (.ref pg), some (.int x1), some (.int 0)]) rfl rfl ?_
  refine r_fall ?_
  exact tX4_placeOf_b1 hB hPQ 10000 x1 0 hO hP

def FX4_isSending_b1 : Nat → Int32 → Int32 → Int32 → mF → mF → mF → Int32
  | 0, _, _, _, _, _, _ => 0
  | n + 1, y1, y2, y3, f_this, f_sender, f_sendLink =>
    if (f_this 7) ≤ y3 then (0) else (if (f_sender ((y3 : Int32).toNatClampNeg)) = y1 then (if (f_sendLink ((y3 : Int32).toNatClampNeg)) = y2 then (1) else (FX4_isSending_b1 n y1 y2 (y3 + 1) f_this f_sender f_sendLink)) else (FX4_isSending_b1 n y1 y2 (y3 + 1) f_this f_sender f_sendLink))
def OX4_isSending_b1 : Nat → Int32 → Int32 → Int32 → mF → mF → mF → Prop
  | 0, _, _, _, _, _, _ => False
  | n + 1, y1, y2, y3, f_this, f_sender, f_sendLink =>
    ((f_this 7) ≤ y3 → True) ∧ (¬ ((f_this 7) ≤ y3) → (vp_in y3 4 ∧ (((f_sender ((y3 : Int32).toNatClampNeg)) = y1 → (vp_in y3 4 ∧ (((f_sendLink ((y3 : Int32).toNatClampNeg)) = y2 → True) ∧ (¬ ((f_sendLink ((y3 : Int32).toNatClampNeg)) = y2) → (OX4_isSending_b1 n y1 y2 (y3 + 1) f_this f_sender f_sendLink))))) ∧ (¬ ((f_sender ((y3 : Int32).toNatClampNeg)) = y1) → (OX4_isSending_b1 n y1 y2 (y3 + 1) f_this f_sender f_sendLink)))))
set_option maxRecDepth 20000 in
theorem tX4_isSending_b1 {d : Nat} {B : mB} {v : mV} {w : mX} {Q : Option Int32 → mMH → Prop} {pg : Nat} (hB : isPrg B pg) {P : Int32 → Prop} {f_this : mF} {f_sender : mF} {f_sendLink : mF} (hPQ : ∀ (q : Int32), P q → Q (some q) (mH B (mE v [(pg, f_this), (pg + 5, f_sender), (pg + 6, f_sendLink)]) w)) : ∀ (n : Nat) (y1 : Int32) (y2 : Int32) (y3 : Int32), OX4_isSending_b1 n y1 y2 y3 f_this f_sender f_sendLink → P (FX4_isSending_b1 n y1 y2 y3 f_this f_sender f_sendLink) → RJ (d + 0) kX4_isSending (some .boolean) 1 [some (.ref pg), some (.int y1), some (.int y2), some (.int y3)] [] (mH B (mE v [(pg, f_this), (pg + 5, f_sender), (pg + 6, f_sendLink)]) w) Q := by
  intro n
  induction n with
  | zero => exact fun _ _ _ hO => hO.elim
  | succ n ih1 =>
    intro y1 y2 y3 hO hP
    rw [FX4_isSending_b1] at hP
    rw [OX4_isSending_b1] at hO
    have hn : ∀ (f_this : mF) (f_sender : mF) (f_sendLink : mF), mNd [(pg, f_this), (pg + 5, f_sender), (pg + 6, f_sendLink)] := fun _ _ _ => by
      show List.Nodup _
      simp only [List.map_cons, List.map_nil, List.nodup_cons, List.mem_cons, List.not_mem_nil, or_false, not_or, not_false_eq_true, List.nodup_nil, and_true]
      omega
    show RB _ _ _ _ [some (.ref pg), some (.int y1), some (.int y2), some (.int y3)] [] _ _
    refine r_iload rfl ?_
    refine r_aload rfl ?_
    refine r_get (x := f_this 7) 0 (hn _ _ _) rfl hB.1 (by decide) rfl ?_
    refine r_icmp (fun c1 : (f_this 7) ≤ y3 => ?_) (fun c1 : ¬ ((f_this 7) ≤ y3) => ?_)
    · rw [if_pos c1] at hP
      have hO := hO.1 c1
      refine r_int ?_
      exact r_ret rfl rfl (hPQ 0 hP)
    · rw [if_neg c1] at hP
      have hO := hO.2 c1
      refine r_aload rfl ?_
      refine r_getr (q := pg + 5) hB.1 hB.2.2.2.2.2.2.2.2.2.2.2.2.2.2.2.2.2.2.1 ?_
      refine r_iload rfl ?_
      obtain ⟨h2, hO⟩ := hO
      refine r_ald (x := f_sender ((y3 : Int32).toNatClampNeg)) 1 ((y3 : Int32).toNatClampNeg) (hn _ _ _) rfl hB.2.2.2.2.2.1 (by decide) rfl h2 rfl rfl ?_
      refine r_iload rfl ?_
      refine r_icmp1 (fun c3 : (f_sender ((y3 : Int32).toNatClampNeg)) = y1 => ?_) (fun c3 : ¬ ((f_sender ((y3 : Int32).toNatClampNeg)) = y1) => ?_)
      · rw [if_pos c3] at hP
        have hO := hO.1 c3
        refine r_aload rfl ?_
        refine r_getr (q := pg + 6) hB.1 hB.2.2.2.2.2.2.2.2.2.2.2.2.2.2.2.2.2.2.2.1 ?_
        refine r_iload rfl ?_
        obtain ⟨h4, hO⟩ := hO
        refine r_ald (x := f_sendLink ((y3 : Int32).toNatClampNeg)) 2 ((y3 : Int32).toNatClampNeg) (hn _ _ _) rfl hB.2.2.2.2.2.2.1 (by decide) rfl h4 rfl rfl ?_
        refine r_iload rfl ?_
        refine r_icmp1 (fun c5 : (f_sendLink ((y3 : Int32).toNatClampNeg)) = y2 => ?_) (fun c5 : ¬ ((f_sendLink ((y3 : Int32).toNatClampNeg)) = y2) => ?_)
        · rw [if_pos c5] at hP
          have hO := hO.1 c5
          refine r_int ?_
          exact r_ret rfl rfl (hPQ 1 hP)
        · rw [if_neg c5] at hP
          have hO := hO.2 c5
          refine r_iinc (L' := [some (.ref pg), some (.int y1), some (.int y2), some (.int (y3 + 1))]) rfl rfl rfl ?_
          refine r_goto ?_
          exact ih1 y1 y2 (y3 + 1) hO hP
      · rw [if_neg c3] at hP
        have hO := hO.2 c3
        refine r_iinc (L' := [some (.ref pg), some (.int y1), some (.int y2), some (.int (y3 + 1))]) rfl rfl rfl ?_
        refine r_goto ?_
        exact ih1 y1 y2 (y3 + 1) hO hP
def FX4_isSending (x1 : Int32) (x2 : Int32) (f_this : mF) (f_sender : mF) (f_sendLink : mF) : Int32 :=
  FX4_isSending_b1 10000 x1 x2 0 f_this f_sender f_sendLink
def OX4_isSending (x1 : Int32) (x2 : Int32) (f_this : mF) (f_sender : mF) (f_sendLink : mF) : Prop :=
  OX4_isSending_b1 10000 x1 x2 0 f_this f_sender f_sendLink
set_option maxRecDepth 20000 in
theorem tX4_isSending {d : Nat} {B : mB} {v : mV} {w : mX} {Q : Option Int32 → mMH → Prop} {pg : Nat} (hB : isPrg B pg) (x1 : Int32) (x2 : Int32) (f_this : mF) (f_sender : mF) (f_sendLink : mF) (hO : OX4_isSending x1 x2 f_this f_sender f_sendLink) (hQ : Q (some (FX4_isSending x1 x2 f_this f_sender f_sendLink)) (mH B (mE v [(pg, f_this), (pg + 5, f_sender), (pg + 6, f_sendLink)]) w)) : CQ (d + 1) 76 [.ref pg, .int x1, .int x2] (mH B (mE v [(pg, f_this), (pg + 5, f_sender), (pg + 6, f_sendLink)]) w) Q := by
  have hn : ∀ (f_this : mF) (f_sender : mF) (f_sendLink : mF), mNd [(pg, f_this), (pg + 5, f_sender), (pg + 6, f_sendLink)] := fun _ _ _ => by
    show List.Nodup _
    simp only [List.map_cons, List.map_nil, List.nodup_cons, List.mem_cons, List.not_mem_nil, or_false, not_or, not_false_eq_true, List.nodup_nil, and_true]
    omega
  obtain ⟨P, hPQ, hP⟩ : ∃ P : Int32 → Prop, (∀ (q : Int32), P q → Q (some q) (mH B (mE v [(pg, f_this), (pg + 5, f_sender), (pg + 6, f_sendLink)]) w)) ∧ P (FX4_isSending x1 x2 f_this f_sender f_sendLink) := ⟨fun res => Q (some res) (mH B (mE v [(pg, f_this), (pg + 5, f_sender), (pg + 6, f_sendLink)]) w), fun _ h => h, hQ⟩
  refine r_begin mt_76 (by intro a ha; simp only [List.mem_cons, List.not_mem_nil, or_false] at ha; rcases ha with rfl | rfl | rfl <;> rfl) (Nat.le_of_ble_eq_true rfl) ?_
  rw [FX4_isSending] at hP
  rw [OX4_isSending] at hO
  show RB _ _ _ _ [some (.ref pg), some (.int x1), some (.int x2), none] [] _ _
  refine r_int ?_
  refine r_istore (L' := [some (.ref pg), some (.int x1), some (.int x2), some (.int 0)]) rfl rfl ?_
  refine r_fall ?_
  exact tX4_isSending_b1 hB hPQ 10000 x1 x2 0 hO hP

def FX4_isReceiving_b1 : Nat → Int32 → Int32 → Int32 → mF → mF → mF → Int32
  | 0, _, _, _, _, _, _ => 0
  | n + 1, y1, y2, y3, f_this, f_receiver, f_receiveLink =>
    if (f_this 7) ≤ y3 then (0) else (if (f_receiver ((y3 : Int32).toNatClampNeg)) = y1 then (if (f_receiveLink ((y3 : Int32).toNatClampNeg)) = y2 then (1) else (FX4_isReceiving_b1 n y1 y2 (y3 + 1) f_this f_receiver f_receiveLink)) else (FX4_isReceiving_b1 n y1 y2 (y3 + 1) f_this f_receiver f_receiveLink))
def OX4_isReceiving_b1 : Nat → Int32 → Int32 → Int32 → mF → mF → mF → Prop
  | 0, _, _, _, _, _, _ => False
  | n + 1, y1, y2, y3, f_this, f_receiver, f_receiveLink =>
    ((f_this 7) ≤ y3 → True) ∧ (¬ ((f_this 7) ≤ y3) → (vp_in y3 4 ∧ (((f_receiver ((y3 : Int32).toNatClampNeg)) = y1 → (vp_in y3 4 ∧ (((f_receiveLink ((y3 : Int32).toNatClampNeg)) = y2 → True) ∧ (¬ ((f_receiveLink ((y3 : Int32).toNatClampNeg)) = y2) → (OX4_isReceiving_b1 n y1 y2 (y3 + 1) f_this f_receiver f_receiveLink))))) ∧ (¬ ((f_receiver ((y3 : Int32).toNatClampNeg)) = y1) → (OX4_isReceiving_b1 n y1 y2 (y3 + 1) f_this f_receiver f_receiveLink)))))
set_option maxRecDepth 20000 in
theorem tX4_isReceiving_b1 {d : Nat} {B : mB} {v : mV} {w : mX} {Q : Option Int32 → mMH → Prop} {pg : Nat} (hB : isPrg B pg) {P : Int32 → Prop} {f_this : mF} {f_receiver : mF} {f_receiveLink : mF} (hPQ : ∀ (q : Int32), P q → Q (some q) (mH B (mE v [(pg, f_this), (pg + 7, f_receiver), (pg + 8, f_receiveLink)]) w)) : ∀ (n : Nat) (y1 : Int32) (y2 : Int32) (y3 : Int32), OX4_isReceiving_b1 n y1 y2 y3 f_this f_receiver f_receiveLink → P (FX4_isReceiving_b1 n y1 y2 y3 f_this f_receiver f_receiveLink) → RJ (d + 0) kX4_isReceiving (some .boolean) 1 [some (.ref pg), some (.int y1), some (.int y2), some (.int y3)] [] (mH B (mE v [(pg, f_this), (pg + 7, f_receiver), (pg + 8, f_receiveLink)]) w) Q := by
  intro n
  induction n with
  | zero => exact fun _ _ _ hO => hO.elim
  | succ n ih1 =>
    intro y1 y2 y3 hO hP
    rw [FX4_isReceiving_b1] at hP
    rw [OX4_isReceiving_b1] at hO
    have hn : ∀ (f_this : mF) (f_receiver : mF) (f_receiveLink : mF), mNd [(pg, f_this), (pg + 7, f_receiver), (pg + 8, f_receiveLink)] := fun _ _ _ => by
      show List.Nodup _
      simp only [List.map_cons, List.map_nil, List.nodup_cons, List.mem_cons, List.not_mem_nil, or_false, not_or, not_false_eq_true, List.nodup_nil, and_true]
      omega
    show RB _ _ _ _ [some (.ref pg), some (.int y1), some (.int y2), some (.int y3)] [] _ _
    refine r_iload rfl ?_
    refine r_aload rfl ?_
    refine r_get (x := f_this 7) 0 (hn _ _ _) rfl hB.1 (by decide) rfl ?_
    refine r_icmp (fun c1 : (f_this 7) ≤ y3 => ?_) (fun c1 : ¬ ((f_this 7) ≤ y3) => ?_)
    · rw [if_pos c1] at hP
      have hO := hO.1 c1
      refine r_int ?_
      exact r_ret rfl rfl (hPQ 0 hP)
    · rw [if_neg c1] at hP
      have hO := hO.2 c1
      refine r_aload rfl ?_
      refine r_getr (q := pg + 7) hB.1 hB.2.2.2.2.2.2.2.2.2.2.2.2.2.2.2.2.2.2.2.2.1 ?_
      refine r_iload rfl ?_
      obtain ⟨h2, hO⟩ := hO
      refine r_ald (x := f_receiver ((y3 : Int32).toNatClampNeg)) 1 ((y3 : Int32).toNatClampNeg) (hn _ _ _) rfl hB.2.2.2.2.2.2.2.1 (by decide) rfl h2 rfl rfl ?_
      refine r_iload rfl ?_
      refine r_icmp1 (fun c3 : (f_receiver ((y3 : Int32).toNatClampNeg)) = y1 => ?_) (fun c3 : ¬ ((f_receiver ((y3 : Int32).toNatClampNeg)) = y1) => ?_)
      · rw [if_pos c3] at hP
        have hO := hO.1 c3
        refine r_aload rfl ?_
        refine r_getr (q := pg + 8) hB.1 hB.2.2.2.2.2.2.2.2.2.2.2.2.2.2.2.2.2.2.2.2.2.1 ?_
        refine r_iload rfl ?_
        obtain ⟨h4, hO⟩ := hO
        refine r_ald (x := f_receiveLink ((y3 : Int32).toNatClampNeg)) 2 ((y3 : Int32).toNatClampNeg) (hn _ _ _) rfl hB.2.2.2.2.2.2.2.2.1 (by decide) rfl h4 rfl rfl ?_
        refine r_iload rfl ?_
        refine r_icmp1 (fun c5 : (f_receiveLink ((y3 : Int32).toNatClampNeg)) = y2 => ?_) (fun c5 : ¬ ((f_receiveLink ((y3 : Int32).toNatClampNeg)) = y2) => ?_)
        · rw [if_pos c5] at hP
          have hO := hO.1 c5
          refine r_int ?_
          exact r_ret rfl rfl (hPQ 1 hP)
        · rw [if_neg c5] at hP
          have hO := hO.2 c5
          refine r_iinc (L' := [some (.ref pg), some (.int y1), some (.int y2), some (.int (y3 + 1))]) rfl rfl rfl ?_
          refine r_goto ?_
          exact ih1 y1 y2 (y3 + 1) hO hP
      · rw [if_neg c3] at hP
        have hO := hO.2 c3
        refine r_iinc (L' := [some (.ref pg), some (.int y1), some (.int y2), some (.int (y3 + 1))]) rfl rfl rfl ?_
        refine r_goto ?_
        exact ih1 y1 y2 (y3 + 1) hO hP
def FX4_isReceiving (x1 : Int32) (x2 : Int32) (f_this : mF) (f_receiver : mF) (f_receiveLink : mF) : Int32 :=
  FX4_isReceiving_b1 10000 x1 x2 0 f_this f_receiver f_receiveLink
def OX4_isReceiving (x1 : Int32) (x2 : Int32) (f_this : mF) (f_receiver : mF) (f_receiveLink : mF) : Prop :=
  OX4_isReceiving_b1 10000 x1 x2 0 f_this f_receiver f_receiveLink
set_option maxRecDepth 20000 in
theorem tX4_isReceiving {d : Nat} {B : mB} {v : mV} {w : mX} {Q : Option Int32 → mMH → Prop} {pg : Nat} (hB : isPrg B pg) (x1 : Int32) (x2 : Int32) (f_this : mF) (f_receiver : mF) (f_receiveLink : mF) (hO : OX4_isReceiving x1 x2 f_this f_receiver f_receiveLink) (hQ : Q (some (FX4_isReceiving x1 x2 f_this f_receiver f_receiveLink)) (mH B (mE v [(pg, f_this), (pg + 7, f_receiver), (pg + 8, f_receiveLink)]) w)) : CQ (d + 1) 77 [.ref pg, .int x1, .int x2] (mH B (mE v [(pg, f_this), (pg + 7, f_receiver), (pg + 8, f_receiveLink)]) w) Q := by
  have hn : ∀ (f_this : mF) (f_receiver : mF) (f_receiveLink : mF), mNd [(pg, f_this), (pg + 7, f_receiver), (pg + 8, f_receiveLink)] := fun _ _ _ => by
    show List.Nodup _
    simp only [List.map_cons, List.map_nil, List.nodup_cons, List.mem_cons, List.not_mem_nil, or_false, not_or, not_false_eq_true, List.nodup_nil, and_true]
    omega
  obtain ⟨P, hPQ, hP⟩ : ∃ P : Int32 → Prop, (∀ (q : Int32), P q → Q (some q) (mH B (mE v [(pg, f_this), (pg + 7, f_receiver), (pg + 8, f_receiveLink)]) w)) ∧ P (FX4_isReceiving x1 x2 f_this f_receiver f_receiveLink) := ⟨fun res => Q (some res) (mH B (mE v [(pg, f_this), (pg + 7, f_receiver), (pg + 8, f_receiveLink)]) w), fun _ h => h, hQ⟩
  refine r_begin mt_77 (by intro a ha; simp only [List.mem_cons, List.not_mem_nil, or_false] at ha; rcases ha with rfl | rfl | rfl <;> rfl) (Nat.le_of_ble_eq_true rfl) ?_
  rw [FX4_isReceiving] at hP
  rw [OX4_isReceiving] at hO
  show RB _ _ _ _ [some (.ref pg), some (.int x1), some (.int x2), none] [] _ _
  refine r_int ?_
  refine r_istore (L' := [some (.ref pg), some (.int x1), some (.int x2), some (.int 0)]) rfl rfl ?_
  refine r_fall ?_
  exact tX4_isReceiving_b1 hB hPQ 10000 x1 x2 0 hO hP

def FX7_see (x1 : Int32) (f_this : mF) (f_isSeen : mF) (f_open : mF) : Int32 × mF × mF × mF :=
  if x1 < 0 then ((0, f_this, f_isSeen, f_open)) else (if (f_this 0) ≤ x1 then ((0, f_this, f_isSeen, f_open)) else (if (f_isSeen ((x1 : Int32).toNatClampNeg)) = 0 then (let g6 := upd f_isSeen ((x1 : Int32).toNatClampNeg) 1; let g8 := upd f_open ((f_this 4 : Int32).toNatClampNeg) x1; (0, (upd f_this 4 ((f_this 4) + 1)), g6, g8)) else ((0, f_this, f_isSeen, f_open))))
def OX7_see (x1 : Int32) (f_this : mF) (f_isSeen : mF) (f_open : mF) : Prop :=
  (x1 < 0 → True) ∧ (¬ (x1 < 0) → (((f_this 0) ≤ x1 → True) ∧ (¬ ((f_this 0) ≤ x1) → (vp_in x1 100 ∧ (((f_isSeen ((x1 : Int32).toNatClampNeg)) = 0 → (vp_in x1 100 ∧ (let g6 := upd f_isSeen ((x1 : Int32).toNatClampNeg) 1; vp_in (f_this 4) 100))) ∧ (¬ ((f_isSeen ((x1 : Int32).toNatClampNeg)) = 0) → True))))))
set_option maxRecDepth 20000 in
theorem tX7_see {d : Nat} {B : mB} {v : mV} {w : mX} {Q : Option Int32 → mMH → Prop} {y : Nat} (hB : isWays B y) (x1 : Int32) (f_this : mF) (f_isSeen : mF) (f_open : mF) (hO : OX7_see x1 f_this f_isSeen f_open) (hQ : Q (none) (mH B (mE v [(y, (FX7_see x1 f_this f_isSeen f_open).2.1), (y + 2, (FX7_see x1 f_this f_isSeen f_open).2.2.1), (y + 3, (FX7_see x1 f_this f_isSeen f_open).2.2.2)]) w)) : CQ (d + 1) 114 [.ref y, .int x1] (mH B (mE v [(y, f_this), (y + 2, f_isSeen), (y + 3, f_open)]) w) Q := by
  have hn : ∀ (f_this : mF) (f_isSeen : mF) (f_open : mF), mNd [(y, f_this), (y + 2, f_isSeen), (y + 3, f_open)] := fun _ _ _ => by
    show List.Nodup _
    simp only [List.map_cons, List.map_nil, List.nodup_cons, List.mem_cons, List.not_mem_nil, or_false, not_or, not_false_eq_true, List.nodup_nil, and_true]
    omega
  obtain ⟨P, hPQ, hP⟩ : ∃ P : Int32 × mF × mF × mF → Prop, (∀ (q : Int32) (q0 : mF) (q1 : mF) (q2 : mF), P (q, q0, q1, q2) → Q (none) (mH B (mE v [(y, q0), (y + 2, q1), (y + 3, q2)]) w)) ∧ P (FX7_see x1 f_this f_isSeen f_open) := ⟨fun res => Q (none) (mH B (mE v [(y, res.2.1), (y + 2, res.2.2.1), (y + 3, res.2.2.2)]) w), fun _ _ _ _ h => h, hQ⟩
  refine r_begin mt_114 (by intro a ha; simp only [List.mem_cons, List.not_mem_nil, or_false] at ha; rcases ha with rfl | rfl <;> rfl) (Nat.le_of_ble_eq_true rfl) ?_
  rw [FX7_see] at hP
  rw [OX7_see] at hO
  show RB _ _ _ _ [some (.ref y), some (.int x1)] [] _ _
  refine r_iload rfl ?_
  refine r_if (fun c1 : x1 < 0 => ?_) (fun c1 : ¬ (x1 < 0) => ?_)
  · rw [if_pos c1] at hP
    have hO := hO.1 c1
    exact r_retv rfl (hPQ 0 f_this f_isSeen f_open hP)
  · rw [if_neg c1] at hP
    have hO := hO.2 c1
    refine r_iload rfl ?_
    refine r_aload rfl ?_
    refine r_get (x := f_this 0) 0 (hn _ _ _) rfl hB.1 (by decide) rfl ?_
    refine r_icmp (fun c2 : (f_this 0) ≤ x1 => ?_) (fun c2 : ¬ ((f_this 0) ≤ x1) => ?_)
    · rw [if_pos c2] at hP
      have hO := hO.1 c2
      exact r_retv rfl (hPQ 0 f_this f_isSeen f_open hP)
    · rw [if_neg c2] at hP
      have hO := hO.2 c2
      refine r_aload rfl ?_
      refine r_getr (q := y + 2) hB.1 hB.2.2.2.2.2.1 ?_
      refine r_iload rfl ?_
      obtain ⟨h3, hO⟩ := hO
      refine r_ald (x := f_isSeen ((x1 : Int32).toNatClampNeg)) 1 ((x1 : Int32).toNatClampNeg) (hn _ _ _) rfl hB.2.2.1 (by decide) (Or.inr rfl) h3 rfl rfl ?_
      refine r_if1 (fun c4 : (f_isSeen ((x1 : Int32).toNatClampNeg)) = 0 => ?_) (fun c4 : ¬ ((f_isSeen ((x1 : Int32).toNatClampNeg)) = 0) => ?_)
      · rw [if_pos c4] at hP
        have hO := hO.1 c4
        refine r_aload rfl ?_
        refine r_getr (q := y + 2) hB.1 hB.2.2.2.2.2.1 ?_
        refine r_iload rfl ?_
        refine r_int ?_
        obtain ⟨h5, hO⟩ := hO
        refine r_ast (y := 1) (env' := [(y, f_this), (y + 2, (upd f_isSeen ((x1 : Int32).toNatClampNeg) 1)), (y + 3, f_open)]) 1 ((x1 : Int32).toNatClampNeg) (hn _ _ _) rfl hB.2.2.1 (by decide) (Or.inr rfl) h5 rfl rfl rfl ?_
        generalize hg_g6 : upd f_isSeen ((x1 : Int32).toNatClampNeg) 1 = g6 at hP hO ⊢
        try dsimp only at hP hO
        refine r_aload rfl ?_
        refine r_getr (q := y + 3) hB.1 hB.2.2.2.2.2.2 ?_
        refine r_aload rfl ?_
        refine r_get (x := f_this 4) 0 (hn _ _ _) rfl hB.1 (by decide) rfl ?_
        refine r_iload rfl ?_
        have h7 := hO
        refine r_ast (y := x1) (env' := [(y, f_this), (y + 2, g6), (y + 3, (upd f_open ((f_this 4 : Int32).toNatClampNeg) x1))]) 2 ((f_this 4 : Int32).toNatClampNeg) (hn _ _ _) rfl hB.2.2.2.1 (by decide) rfl h7 rfl rfl rfl ?_
        generalize hg_g8 : upd f_open ((f_this 4 : Int32).toNatClampNeg) x1 = g8 at hP ⊢
        try dsimp only at hP
        refine r_aload rfl ?_
        refine r_dup rfl ?_
        refine r_get (x := f_this 4) 0 (hn _ _ _) rfl hB.1 (by decide) rfl ?_
        refine r_int ?_
        refine r_iadd ?_
        refine r_put (env' := [(y, (upd f_this 4 ((f_this 4) + 1))), (y + 2, g6), (y + 3, g8)]) 0 (hn _ _ _) rfl rfl hB.1 ?_
        refine r_fall ?_
        exact r_retv rfl (hPQ 0 (upd f_this 4 ((f_this 4) + 1)) g6 g8 hP)
      · rw [if_neg c4] at hP
        have hO := hO.2 c4
        exact r_retv rfl (hPQ 0 f_this f_isSeen f_open hP)

def FX7_goOn (x2 : Int32) (x3 : Int32) (f_this : mF) (f_isSeen : mF) (f_open : mF) (f_prg_op : mF) (f_prg_number : mF) : Int32 × mF × mF × mF :=
  if (f_prg_op ((x2 : Int32).toNatClampNeg)) = 8 then (let u4 := FX7_see (f_prg_number ((x2 : Int32).toNatClampNeg)) f_this f_isSeen f_open; if (f_prg_op ((x2 : Int32).toNatClampNeg)) = 7 then ((0, u4.2.1, u4.2.2.1, u4.2.2.2)) else (if (f_prg_op ((x2 : Int32).toNatClampNeg)) = 19 then ((0, u4.2.1, u4.2.2.1, u4.2.2.2)) else (if (f_prg_op ((x2 : Int32).toNatClampNeg)) = 29 then ((0, u4.2.1, u4.2.2.1, u4.2.2.2)) else (if (f_prg_op ((x2 : Int32).toNatClampNeg)) = 38 then ((0, u4.2.1, u4.2.2.1, u4.2.2.2)) else (let u10 := FX7_see (x2 + 1) u4.2.1 u4.2.2.1 u4.2.2.2; (0, u10.2.1, u10.2.2.1, u10.2.2.2)))))) else (if (f_prg_op ((x2 : Int32).toNatClampNeg)) = 7 then (if x3 = 0 then (if (f_prg_op ((x2 : Int32).toNatClampNeg)) = 7 then ((0, f_this, f_isSeen, f_open)) else (if (f_prg_op ((x2 : Int32).toNatClampNeg)) = 19 then ((0, f_this, f_isSeen, f_open)) else (if (f_prg_op ((x2 : Int32).toNatClampNeg)) = 29 then ((0, f_this, f_isSeen, f_open)) else (if (f_prg_op ((x2 : Int32).toNatClampNeg)) = 38 then ((0, f_this, f_isSeen, f_open)) else (let u20 := FX7_see (x2 + 1) f_this f_isSeen f_open; (0, u20.2.1, u20.2.2.1, u20.2.2.2)))))) else (let u24 := FX7_see (f_prg_number ((x2 : Int32).toNatClampNeg)) f_this f_isSeen f_open; if (f_prg_op ((x2 : Int32).toNatClampNeg)) = 7 then ((0, u24.2.1, u24.2.2.1, u24.2.2.2)) else (if (f_prg_op ((x2 : Int32).toNatClampNeg)) = 19 then ((0, u24.2.1, u24.2.2.1, u24.2.2.2)) else (if (f_prg_op ((x2 : Int32).toNatClampNeg)) = 29 then ((0, u24.2.1, u24.2.2.1, u24.2.2.2)) else (if (f_prg_op ((x2 : Int32).toNatClampNeg)) = 38 then ((0, u24.2.1, u24.2.2.1, u24.2.2.2)) else (let u30 := FX7_see (x2 + 1) u24.2.1 u24.2.2.1 u24.2.2.2; (0, u30.2.1, u30.2.2.1, u30.2.2.2))))))) else (if (f_prg_op ((x2 : Int32).toNatClampNeg)) = 7 then ((0, f_this, f_isSeen, f_open)) else (if (f_prg_op ((x2 : Int32).toNatClampNeg)) = 19 then ((0, f_this, f_isSeen, f_open)) else (if (f_prg_op ((x2 : Int32).toNatClampNeg)) = 29 then ((0, f_this, f_isSeen, f_open)) else (if (f_prg_op ((x2 : Int32).toNatClampNeg)) = 38 then ((0, f_this, f_isSeen, f_open)) else (let u38 := FX7_see (x2 + 1) f_this f_isSeen f_open; (0, u38.2.1, u38.2.2.1, u38.2.2.2)))))))
def OX7_goOn (x2 : Int32) (x3 : Int32) (f_this : mF) (f_isSeen : mF) (f_open : mF) (f_prg_op : mF) (f_prg_number : mF) : Prop :=
  vp_in x2 100 ∧ (((f_prg_op ((x2 : Int32).toNatClampNeg)) = 8 → (vp_in x2 100 ∧ (OX7_see (f_prg_number ((x2 : Int32).toNatClampNeg)) f_this f_isSeen f_open ∧ (let u4 := FX7_see (f_prg_number ((x2 : Int32).toNatClampNeg)) f_this f_isSeen f_open; ((f_prg_op ((x2 : Int32).toNatClampNeg)) = 7 → True) ∧ (¬ ((f_prg_op ((x2 : Int32).toNatClampNeg)) = 7) → (((f_prg_op ((x2 : Int32).toNatClampNeg)) = 19 → True) ∧ (¬ ((f_prg_op ((x2 : Int32).toNatClampNeg)) = 19) → (((f_prg_op ((x2 : Int32).toNatClampNeg)) = 29 → True) ∧ (¬ ((f_prg_op ((x2 : Int32).toNatClampNeg)) = 29) → (((f_prg_op ((x2 : Int32).toNatClampNeg)) = 38 → True) ∧ (¬ ((f_prg_op ((x2 : Int32).toNatClampNeg)) = 38) → (OX7_see (x2 + 1) u4.2.1 u4.2.2.1 u4.2.2.2)))))))))))) ∧ (¬ ((f_prg_op ((x2 : Int32).toNatClampNeg)) = 8) → (((f_prg_op ((x2 : Int32).toNatClampNeg)) = 7 → ((x3 = 0 → (((f_prg_op ((x2 : Int32).toNatClampNeg)) = 7 → True) ∧ (¬ ((f_prg_op ((x2 : Int32).toNatClampNeg)) = 7) → (((f_prg_op ((x2 : Int32).toNatClampNeg)) = 19 → True) ∧ (¬ ((f_prg_op ((x2 : Int32).toNatClampNeg)) = 19) → (((f_prg_op ((x2 : Int32).toNatClampNeg)) = 29 → True) ∧ (¬ ((f_prg_op ((x2 : Int32).toNatClampNeg)) = 29) → (((f_prg_op ((x2 : Int32).toNatClampNeg)) = 38 → True) ∧ (¬ ((f_prg_op ((x2 : Int32).toNatClampNeg)) = 38) → (OX7_see (x2 + 1) f_this f_isSeen f_open)))))))))) ∧ (¬ (x3 = 0) → (vp_in x2 100 ∧ (OX7_see (f_prg_number ((x2 : Int32).toNatClampNeg)) f_this f_isSeen f_open ∧ (let u24 := FX7_see (f_prg_number ((x2 : Int32).toNatClampNeg)) f_this f_isSeen f_open; ((f_prg_op ((x2 : Int32).toNatClampNeg)) = 7 → True) ∧ (¬ ((f_prg_op ((x2 : Int32).toNatClampNeg)) = 7) → (((f_prg_op ((x2 : Int32).toNatClampNeg)) = 19 → True) ∧ (¬ ((f_prg_op ((x2 : Int32).toNatClampNeg)) = 19) → (((f_prg_op ((x2 : Int32).toNatClampNeg)) = 29 → True) ∧ (¬ ((f_prg_op ((x2 : Int32).toNatClampNeg)) = 29) → (((f_prg_op ((x2 : Int32).toNatClampNeg)) = 38 → True) ∧ (¬ ((f_prg_op ((x2 : Int32).toNatClampNeg)) = 38) → (OX7_see (x2 + 1) u24.2.1 u24.2.2.1 u24.2.2.2)))))))))))))) ∧ (¬ ((f_prg_op ((x2 : Int32).toNatClampNeg)) = 7) → (((f_prg_op ((x2 : Int32).toNatClampNeg)) = 7 → True) ∧ (¬ ((f_prg_op ((x2 : Int32).toNatClampNeg)) = 7) → (((f_prg_op ((x2 : Int32).toNatClampNeg)) = 19 → True) ∧ (¬ ((f_prg_op ((x2 : Int32).toNatClampNeg)) = 19) → (((f_prg_op ((x2 : Int32).toNatClampNeg)) = 29 → True) ∧ (¬ ((f_prg_op ((x2 : Int32).toNatClampNeg)) = 29) → (((f_prg_op ((x2 : Int32).toNatClampNeg)) = 38 → True) ∧ (¬ ((f_prg_op ((x2 : Int32).toNatClampNeg)) = 38) → (OX7_see (x2 + 1) f_this f_isSeen f_open)))))))))))))
set_option maxRecDepth 20000 in
theorem tX7_goOn {d : Nat} {B : mB} {v : mV} {w : mX} {Q : Option Int32 → mMH → Prop} {y pg : Nat} (hB : isWays B y) (hG : isPrg B pg) (hpg : pg + 14 ≤ y) (x2 : Int32) (x3 : Int32) (f_this : mF) (f_isSeen : mF) (f_open : mF) (f_prg_op : mF) (f_prg_number : mF) (hO : OX7_goOn x2 x3 f_this f_isSeen f_open f_prg_op f_prg_number) (hQ : Q (none) (mH B (mE v [(y, (FX7_goOn x2 x3 f_this f_isSeen f_open f_prg_op f_prg_number).2.1), (y + 2, (FX7_goOn x2 x3 f_this f_isSeen f_open f_prg_op f_prg_number).2.2.1), (y + 3, (FX7_goOn x2 x3 f_this f_isSeen f_open f_prg_op f_prg_number).2.2.2), (pg + 1, f_prg_op), (pg + 2, f_prg_number)]) w)) : CQ (d + 2) 113 [.ref y, .ref pg, .int x2, .int x3] (mH B (mE v [(y, f_this), (y + 2, f_isSeen), (y + 3, f_open), (pg + 1, f_prg_op), (pg + 2, f_prg_number)]) w) Q := by
  have hn : ∀ (f_this : mF) (f_isSeen : mF) (f_open : mF) (f_prg_op : mF) (f_prg_number : mF), mNd [(y, f_this), (y + 2, f_isSeen), (y + 3, f_open), (pg + 1, f_prg_op), (pg + 2, f_prg_number)] := fun _ _ _ _ _ => by
    show List.Nodup _
    simp only [List.map_cons, List.map_nil, List.nodup_cons, List.mem_cons, List.not_mem_nil, or_false, not_or, not_false_eq_true, List.nodup_nil, and_true]
    omega
  obtain ⟨P, hPQ, hP⟩ : ∃ P : Int32 × mF × mF × mF → Prop, (∀ (q : Int32) (q0 : mF) (q1 : mF) (q2 : mF), P (q, q0, q1, q2) → Q (none) (mH B (mE v [(y, q0), (y + 2, q1), (y + 3, q2), (pg + 1, f_prg_op), (pg + 2, f_prg_number)]) w)) ∧ P (FX7_goOn x2 x3 f_this f_isSeen f_open f_prg_op f_prg_number) := ⟨fun res => Q (none) (mH B (mE v [(y, res.2.1), (y + 2, res.2.2.1), (y + 3, res.2.2.2), (pg + 1, f_prg_op), (pg + 2, f_prg_number)]) w), fun _ _ _ _ h => h, hQ⟩
  refine r_begin mt_113 (by intro a ha; simp only [List.mem_cons, List.not_mem_nil, or_false] at ha; rcases ha with rfl | rfl | rfl | rfl <;> rfl) (Nat.le_of_ble_eq_true rfl) ?_
  rw [FX7_goOn] at hP
  rw [OX7_goOn] at hO
  show RB _ _ _ _ [some (.ref y), some (.ref pg), some (.int x2), some (.int x3), none] [] _ _
  refine r_aload rfl ?_
  refine r_getr (q := pg + 1) hG.1 hG.2.2.2.2.2.2.2.2.2.2.2.2.2.2.1 ?_
  refine r_iload rfl ?_
  obtain ⟨h1, hO⟩ := hO
  refine r_ald (x := f_prg_op ((x2 : Int32).toNatClampNeg)) 3 ((x2 : Int32).toNatClampNeg) (hn _ _ _ _ _) rfl hG.2.1 (by decide) rfl h1 rfl rfl ?_
  refine r_istore (L' := [some (.ref y), some (.ref pg), some (.int x2), some (.int x3), some (.int (f_prg_op ((x2 : Int32).toNatClampNeg)))]) rfl rfl ?_
  refine r_iload rfl ?_
  refine r_int ?_
  refine r_icmp (fun c2 : (f_prg_op ((x2 : Int32).toNatClampNeg)) = 8 => ?_) (fun c2 : ¬ ((f_prg_op ((x2 : Int32).toNatClampNeg)) = 8) => ?_)
  · rw [if_pos c2] at hP
    have hO := hO.1 c2
    refine r_aload rfl ?_
    refine r_aload rfl ?_
    refine r_getr (q := pg + 2) hG.1 hG.2.2.2.2.2.2.2.2.2.2.2.2.2.2.2.1 ?_
    refine r_iload rfl ?_
    obtain ⟨h3, hO⟩ := hO
    refine r_ald (x := f_prg_number ((x2 : Int32).toNatClampNeg)) 4 ((x2 : Int32).toNatClampNeg) (hn _ _ _ _ _) rfl hG.2.2.1 (by decide) rfl h3 rfl rfl ?_
    obtain ⟨h5, hO⟩ := hO
    have k13 := fun (Q' : Option Int32 → mMH → Prop) hq => tX7_see (d := d + 0) (B := B) (v := mE v [(y, f_this), (y + 2, f_isSeen), (y + 3, f_open), (pg + 1, f_prg_op), (pg + 2, f_prg_number)]) (w := w) (Q := Q') hB (f_prg_number ((x2 : Int32).toNatClampNeg)) f_this f_isSeen f_open h5 hq
    generalize hg_u4 : FX7_see (f_prg_number ((x2 : Int32).toNatClampNeg)) f_this f_isSeen f_open = u4 at k13 hP hO
    try dsimp only at hP hO
    refine r_callV (st := []) (o := y) (as := [.int (f_prg_number ((x2 : Int32).toNatClampNeg))]) (envc := [(y, f_this), (y + 2, f_isSeen), (y + 3, f_open)]) (envc' := [(y, u4.2.1), (y + 2, u4.2.2.1), (y + 3, u4.2.2.2)]) (env' := [(y, u4.2.1), (y + 2, u4.2.2.1), (y + 3, u4.2.2.2), (pg + 1, f_prg_op), (pg + 2, f_prg_number)]) (rv := none) [0, 1, 2] (hn _ _ _ _ _) rfl rfl (Nat.le_of_ble_eq_true rfl) hB.1 rfl rfl rfl k13 ?_
    show RB _ _ _ _ _ [] _ _
    refine r_fall ?_
    refine r_iload rfl ?_
    refine r_int ?_
    refine r_icmp (fun c6 : (f_prg_op ((x2 : Int32).toNatClampNeg)) = 7 => ?_) (fun c6 : ¬ ((f_prg_op ((x2 : Int32).toNatClampNeg)) = 7) => ?_)
    · rw [if_pos c6] at hP
      have hO := hO.1 c6
      exact r_retv rfl (hPQ 0 u4.2.1 u4.2.2.1 u4.2.2.2 hP)
    · rw [if_neg c6] at hP
      have hO := hO.2 c6
      refine r_iload rfl ?_
      refine r_int ?_
      refine r_icmp (fun c7 : (f_prg_op ((x2 : Int32).toNatClampNeg)) = 19 => ?_) (fun c7 : ¬ ((f_prg_op ((x2 : Int32).toNatClampNeg)) = 19) => ?_)
      · rw [if_pos c7] at hP
        have hO := hO.1 c7
        exact r_retv rfl (hPQ 0 u4.2.1 u4.2.2.1 u4.2.2.2 hP)
      · rw [if_neg c7] at hP
        have hO := hO.2 c7
        refine r_iload rfl ?_
        refine r_int ?_
        refine r_icmp (fun c8 : (f_prg_op ((x2 : Int32).toNatClampNeg)) = 29 => ?_) (fun c8 : ¬ ((f_prg_op ((x2 : Int32).toNatClampNeg)) = 29) => ?_)
        · rw [if_pos c8] at hP
          have hO := hO.1 c8
          exact r_retv rfl (hPQ 0 u4.2.1 u4.2.2.1 u4.2.2.2 hP)
        · rw [if_neg c8] at hP
          have hO := hO.2 c8
          refine r_iload rfl ?_
          refine r_int ?_
          refine r_icmp (fun c9 : (f_prg_op ((x2 : Int32).toNatClampNeg)) = 38 => ?_) (fun c9 : ¬ ((f_prg_op ((x2 : Int32).toNatClampNeg)) = 38) => ?_)
          · rw [if_pos c9] at hP
            have hO := hO.1 c9
            exact r_retv rfl (hPQ 0 u4.2.1 u4.2.2.1 u4.2.2.2 hP)
          · rw [if_neg c9] at hP
            have hO := hO.2 c9
            refine r_aload rfl ?_
            refine r_iload rfl ?_
            refine r_int ?_
            refine r_iadd ?_
            have h11 := hO
            have k12 := fun (Q' : Option Int32 → mMH → Prop) hq => tX7_see (d := d + 0) (B := B) (v := mE v [(y, u4.2.1), (y + 2, u4.2.2.1), (y + 3, u4.2.2.2), (pg + 1, f_prg_op), (pg + 2, f_prg_number)]) (w := w) (Q := Q') hB (x2 + 1) u4.2.1 u4.2.2.1 u4.2.2.2 h11 hq
            generalize hg_u10 : FX7_see (x2 + 1) u4.2.1 u4.2.2.1 u4.2.2.2 = u10 at k12 hP
            try dsimp only at hP
            refine r_callV (st := []) (o := y) (as := [.int (x2 + 1)]) (envc := [(y, u4.2.1), (y + 2, u4.2.2.1), (y + 3, u4.2.2.2)]) (envc' := [(y, u10.2.1), (y + 2, u10.2.2.1), (y + 3, u10.2.2.2)]) (env' := [(y, u10.2.1), (y + 2, u10.2.2.1), (y + 3, u10.2.2.2), (pg + 1, f_prg_op), (pg + 2, f_prg_number)]) (rv := none) [0, 1, 2] (hn _ _ _ _ _) rfl rfl (Nat.le_of_ble_eq_true rfl) hB.1 rfl rfl rfl k12 ?_
            show RB _ _ _ _ _ [] _ _
            refine r_fall ?_
            exact r_retv rfl (hPQ 0 u10.2.1 u10.2.2.1 u10.2.2.2 hP)
  · rw [if_neg c2] at hP
    have hO := hO.2 c2
    refine r_iload rfl ?_
    refine r_int ?_
    refine r_icmp1 (fun c14 : (f_prg_op ((x2 : Int32).toNatClampNeg)) = 7 => ?_) (fun c14 : ¬ ((f_prg_op ((x2 : Int32).toNatClampNeg)) = 7) => ?_)
    · rw [if_pos c14] at hP
      have hO := hO.1 c14
      refine r_iload rfl ?_
      refine r_if (fun c15 : x3 = 0 => ?_) (fun c15 : ¬ (x3 = 0) => ?_)
      · rw [if_pos c15] at hP
        have hO := hO.1 c15
        refine r_iload rfl ?_
        refine r_int ?_
        refine r_icmp (fun c16 : (f_prg_op ((x2 : Int32).toNatClampNeg)) = 7 => ?_) (fun c16 : ¬ ((f_prg_op ((x2 : Int32).toNatClampNeg)) = 7) => ?_)
        · rw [if_pos c16] at hP
          have hO := hO.1 c16
          exact r_retv rfl (hPQ 0 f_this f_isSeen f_open hP)
        · rw [if_neg c16] at hP
          have hO := hO.2 c16
          refine r_iload rfl ?_
          refine r_int ?_
          refine r_icmp (fun c17 : (f_prg_op ((x2 : Int32).toNatClampNeg)) = 19 => ?_) (fun c17 : ¬ ((f_prg_op ((x2 : Int32).toNatClampNeg)) = 19) => ?_)
          · rw [if_pos c17] at hP
            have hO := hO.1 c17
            exact r_retv rfl (hPQ 0 f_this f_isSeen f_open hP)
          · rw [if_neg c17] at hP
            have hO := hO.2 c17
            refine r_iload rfl ?_
            refine r_int ?_
            refine r_icmp (fun c18 : (f_prg_op ((x2 : Int32).toNatClampNeg)) = 29 => ?_) (fun c18 : ¬ ((f_prg_op ((x2 : Int32).toNatClampNeg)) = 29) => ?_)
            · rw [if_pos c18] at hP
              have hO := hO.1 c18
              exact r_retv rfl (hPQ 0 f_this f_isSeen f_open hP)
            · rw [if_neg c18] at hP
              have hO := hO.2 c18
              refine r_iload rfl ?_
              refine r_int ?_
              refine r_icmp (fun c19 : (f_prg_op ((x2 : Int32).toNatClampNeg)) = 38 => ?_) (fun c19 : ¬ ((f_prg_op ((x2 : Int32).toNatClampNeg)) = 38) => ?_)
              · rw [if_pos c19] at hP
                have hO := hO.1 c19
                exact r_retv rfl (hPQ 0 f_this f_isSeen f_open hP)
              · rw [if_neg c19] at hP
                have hO := hO.2 c19
                refine r_aload rfl ?_
                refine r_iload rfl ?_
                refine r_int ?_
                refine r_iadd ?_
                have h21 := hO
                have k22 := fun (Q' : Option Int32 → mMH → Prop) hq => tX7_see (d := d + 0) (B := B) (v := mE v [(y, f_this), (y + 2, f_isSeen), (y + 3, f_open), (pg + 1, f_prg_op), (pg + 2, f_prg_number)]) (w := w) (Q := Q') hB (x2 + 1) f_this f_isSeen f_open h21 hq
                generalize hg_u20 : FX7_see (x2 + 1) f_this f_isSeen f_open = u20 at k22 hP
                try dsimp only at hP
                refine r_callV (st := []) (o := y) (as := [.int (x2 + 1)]) (envc := [(y, f_this), (y + 2, f_isSeen), (y + 3, f_open)]) (envc' := [(y, u20.2.1), (y + 2, u20.2.2.1), (y + 3, u20.2.2.2)]) (env' := [(y, u20.2.1), (y + 2, u20.2.2.1), (y + 3, u20.2.2.2), (pg + 1, f_prg_op), (pg + 2, f_prg_number)]) (rv := none) [0, 1, 2] (hn _ _ _ _ _) rfl rfl (Nat.le_of_ble_eq_true rfl) hB.1 rfl rfl rfl k22 ?_
                show RB _ _ _ _ _ [] _ _
                refine r_fall ?_
                exact r_retv rfl (hPQ 0 u20.2.1 u20.2.2.1 u20.2.2.2 hP)
      · rw [if_neg c15] at hP
        have hO := hO.2 c15
        refine r_fall ?_
        refine r_aload rfl ?_
        refine r_aload rfl ?_
        refine r_getr (q := pg + 2) hG.1 hG.2.2.2.2.2.2.2.2.2.2.2.2.2.2.2.1 ?_
        refine r_iload rfl ?_
        obtain ⟨h23, hO⟩ := hO
        refine r_ald (x := f_prg_number ((x2 : Int32).toNatClampNeg)) 4 ((x2 : Int32).toNatClampNeg) (hn _ _ _ _ _) rfl hG.2.2.1 (by decide) rfl h23 rfl rfl ?_
        obtain ⟨h25, hO⟩ := hO
        have k33 := fun (Q' : Option Int32 → mMH → Prop) hq => tX7_see (d := d + 0) (B := B) (v := mE v [(y, f_this), (y + 2, f_isSeen), (y + 3, f_open), (pg + 1, f_prg_op), (pg + 2, f_prg_number)]) (w := w) (Q := Q') hB (f_prg_number ((x2 : Int32).toNatClampNeg)) f_this f_isSeen f_open h25 hq
        generalize hg_u24 : FX7_see (f_prg_number ((x2 : Int32).toNatClampNeg)) f_this f_isSeen f_open = u24 at k33 hP hO
        try dsimp only at hP hO
        refine r_callV (st := []) (o := y) (as := [.int (f_prg_number ((x2 : Int32).toNatClampNeg))]) (envc := [(y, f_this), (y + 2, f_isSeen), (y + 3, f_open)]) (envc' := [(y, u24.2.1), (y + 2, u24.2.2.1), (y + 3, u24.2.2.2)]) (env' := [(y, u24.2.1), (y + 2, u24.2.2.1), (y + 3, u24.2.2.2), (pg + 1, f_prg_op), (pg + 2, f_prg_number)]) (rv := none) [0, 1, 2] (hn _ _ _ _ _) rfl rfl (Nat.le_of_ble_eq_true rfl) hB.1 rfl rfl rfl k33 ?_
        show RB _ _ _ _ _ [] _ _
        refine r_fall ?_
        refine r_iload rfl ?_
        refine r_int ?_
        refine r_icmp (fun c26 : (f_prg_op ((x2 : Int32).toNatClampNeg)) = 7 => ?_) (fun c26 : ¬ ((f_prg_op ((x2 : Int32).toNatClampNeg)) = 7) => ?_)
        · rw [if_pos c26] at hP
          have hO := hO.1 c26
          exact r_retv rfl (hPQ 0 u24.2.1 u24.2.2.1 u24.2.2.2 hP)
        · rw [if_neg c26] at hP
          have hO := hO.2 c26
          refine r_iload rfl ?_
          refine r_int ?_
          refine r_icmp (fun c27 : (f_prg_op ((x2 : Int32).toNatClampNeg)) = 19 => ?_) (fun c27 : ¬ ((f_prg_op ((x2 : Int32).toNatClampNeg)) = 19) => ?_)
          · rw [if_pos c27] at hP
            have hO := hO.1 c27
            exact r_retv rfl (hPQ 0 u24.2.1 u24.2.2.1 u24.2.2.2 hP)
          · rw [if_neg c27] at hP
            have hO := hO.2 c27
            refine r_iload rfl ?_
            refine r_int ?_
            refine r_icmp (fun c28 : (f_prg_op ((x2 : Int32).toNatClampNeg)) = 29 => ?_) (fun c28 : ¬ ((f_prg_op ((x2 : Int32).toNatClampNeg)) = 29) => ?_)
            · rw [if_pos c28] at hP
              have hO := hO.1 c28
              exact r_retv rfl (hPQ 0 u24.2.1 u24.2.2.1 u24.2.2.2 hP)
            · rw [if_neg c28] at hP
              have hO := hO.2 c28
              refine r_iload rfl ?_
              refine r_int ?_
              refine r_icmp (fun c29 : (f_prg_op ((x2 : Int32).toNatClampNeg)) = 38 => ?_) (fun c29 : ¬ ((f_prg_op ((x2 : Int32).toNatClampNeg)) = 38) => ?_)
              · rw [if_pos c29] at hP
                have hO := hO.1 c29
                exact r_retv rfl (hPQ 0 u24.2.1 u24.2.2.1 u24.2.2.2 hP)
              · rw [if_neg c29] at hP
                have hO := hO.2 c29
                refine r_aload rfl ?_
                refine r_iload rfl ?_
                refine r_int ?_
                refine r_iadd ?_
                have h31 := hO
                have k32 := fun (Q' : Option Int32 → mMH → Prop) hq => tX7_see (d := d + 0) (B := B) (v := mE v [(y, u24.2.1), (y + 2, u24.2.2.1), (y + 3, u24.2.2.2), (pg + 1, f_prg_op), (pg + 2, f_prg_number)]) (w := w) (Q := Q') hB (x2 + 1) u24.2.1 u24.2.2.1 u24.2.2.2 h31 hq
                generalize hg_u30 : FX7_see (x2 + 1) u24.2.1 u24.2.2.1 u24.2.2.2 = u30 at k32 hP
                try dsimp only at hP
                refine r_callV (st := []) (o := y) (as := [.int (x2 + 1)]) (envc := [(y, u24.2.1), (y + 2, u24.2.2.1), (y + 3, u24.2.2.2)]) (envc' := [(y, u30.2.1), (y + 2, u30.2.2.1), (y + 3, u30.2.2.2)]) (env' := [(y, u30.2.1), (y + 2, u30.2.2.1), (y + 3, u30.2.2.2), (pg + 1, f_prg_op), (pg + 2, f_prg_number)]) (rv := none) [0, 1, 2] (hn _ _ _ _ _) rfl rfl (Nat.le_of_ble_eq_true rfl) hB.1 rfl rfl rfl k32 ?_
                show RB _ _ _ _ _ [] _ _
                refine r_fall ?_
                exact r_retv rfl (hPQ 0 u30.2.1 u30.2.2.1 u30.2.2.2 hP)
    · rw [if_neg c14] at hP
      have hO := hO.2 c14
      refine r_iload rfl ?_
      refine r_int ?_
      refine r_icmp (fun c34 : (f_prg_op ((x2 : Int32).toNatClampNeg)) = 7 => ?_) (fun c34 : ¬ ((f_prg_op ((x2 : Int32).toNatClampNeg)) = 7) => ?_)
      · rw [if_pos c34] at hP
        have hO := hO.1 c34
        exact r_retv rfl (hPQ 0 f_this f_isSeen f_open hP)
      · rw [if_neg c34] at hP
        have hO := hO.2 c34
        refine r_iload rfl ?_
        refine r_int ?_
        refine r_icmp (fun c35 : (f_prg_op ((x2 : Int32).toNatClampNeg)) = 19 => ?_) (fun c35 : ¬ ((f_prg_op ((x2 : Int32).toNatClampNeg)) = 19) => ?_)
        · rw [if_pos c35] at hP
          have hO := hO.1 c35
          exact r_retv rfl (hPQ 0 f_this f_isSeen f_open hP)
        · rw [if_neg c35] at hP
          have hO := hO.2 c35
          refine r_iload rfl ?_
          refine r_int ?_
          refine r_icmp (fun c36 : (f_prg_op ((x2 : Int32).toNatClampNeg)) = 29 => ?_) (fun c36 : ¬ ((f_prg_op ((x2 : Int32).toNatClampNeg)) = 29) => ?_)
          · rw [if_pos c36] at hP
            have hO := hO.1 c36
            exact r_retv rfl (hPQ 0 f_this f_isSeen f_open hP)
          · rw [if_neg c36] at hP
            have hO := hO.2 c36
            refine r_iload rfl ?_
            refine r_int ?_
            refine r_icmp (fun c37 : (f_prg_op ((x2 : Int32).toNatClampNeg)) = 38 => ?_) (fun c37 : ¬ ((f_prg_op ((x2 : Int32).toNatClampNeg)) = 38) => ?_)
            · rw [if_pos c37] at hP
              have hO := hO.1 c37
              exact r_retv rfl (hPQ 0 f_this f_isSeen f_open hP)
            · rw [if_neg c37] at hP
              have hO := hO.2 c37
              refine r_aload rfl ?_
              refine r_iload rfl ?_
              refine r_int ?_
              refine r_iadd ?_
              have h39 := hO
              have k40 := fun (Q' : Option Int32 → mMH → Prop) hq => tX7_see (d := d + 0) (B := B) (v := mE v [(y, f_this), (y + 2, f_isSeen), (y + 3, f_open), (pg + 1, f_prg_op), (pg + 2, f_prg_number)]) (w := w) (Q := Q') hB (x2 + 1) f_this f_isSeen f_open h39 hq
              generalize hg_u38 : FX7_see (x2 + 1) f_this f_isSeen f_open = u38 at k40 hP
              try dsimp only at hP
              refine r_callV (st := []) (o := y) (as := [.int (x2 + 1)]) (envc := [(y, f_this), (y + 2, f_isSeen), (y + 3, f_open)]) (envc' := [(y, u38.2.1), (y + 2, u38.2.2.1), (y + 3, u38.2.2.2)]) (env' := [(y, u38.2.1), (y + 2, u38.2.2.1), (y + 3, u38.2.2.2), (pg + 1, f_prg_op), (pg + 2, f_prg_number)]) (rv := none) [0, 1, 2] (hn _ _ _ _ _) rfl rfl (Nat.le_of_ble_eq_true rfl) hB.1 rfl rfl rfl k40 ?_
              show RB _ _ _ _ _ [] _ _
              refine r_fall ?_
              exact r_retv rfl (hPQ 0 u38.2.1 u38.2.2.1 u38.2.2.2 hP)

def FX7_follow_b1 : Nat → Int32 → Int32 → mF → mF → mF → mF → mF → mF × mF × mF
  | 0, _, _, f_this, f_isSeen, f_open, _, _ => (f_this, f_isSeen, f_open)
  | n + 1, y2, y3, f_this, f_isSeen, f_open, f_prg_op, f_prg_number =>
    if (f_this 4) ≤ y3 then ((f_this, f_isSeen, f_open)) else (if (f_this 0) ≤ y3 then ((f_this, f_isSeen, f_open)) else (let u4 := FX7_goOn (f_open ((y3 : Int32).toNatClampNeg)) y2 f_this f_isSeen f_open f_prg_op f_prg_number; FX7_follow_b1 n y2 (y3 + 1) u4.2.1 u4.2.2.1 u4.2.2.2 f_prg_op f_prg_number))
def OX7_follow_b1 : Nat → Int32 → Int32 → mF → mF → mF → mF → mF → Prop
  | 0, _, _, _, _, _, _, _ => False
  | n + 1, y2, y3, f_this, f_isSeen, f_open, f_prg_op, f_prg_number =>
    ((f_this 4) ≤ y3 → True) ∧ (¬ ((f_this 4) ≤ y3) → (((f_this 0) ≤ y3 → True) ∧ (¬ ((f_this 0) ≤ y3) → (vp_in y3 100 ∧ (OX7_goOn (f_open ((y3 : Int32).toNatClampNeg)) y2 f_this f_isSeen f_open f_prg_op f_prg_number ∧ (let u4 := FX7_goOn (f_open ((y3 : Int32).toNatClampNeg)) y2 f_this f_isSeen f_open f_prg_op f_prg_number; OX7_follow_b1 n y2 (y3 + 1) u4.2.1 u4.2.2.1 u4.2.2.2 f_prg_op f_prg_number))))))
set_option maxRecDepth 20000 in
theorem tX7_follow_b1 {d : Nat} {B : mB} {v : mV} {w : mX} {Q : Option Int32 → mMH → Prop} {y pg : Nat} (hB : isWays B y) (hG : isPrg B pg) (hpg : pg + 14 ≤ y) (y2 : Int32) {u : mF × mF × mF} {f_prg_op : mF} {f_prg_number : mF} (hK : ∀ (e0 : Option Value) (he0 : mC1 e0 = true) (e1 : Option Value) (he1 : mC1 e1 = true) (e2 : Option Value) (he2 : mC1 e2 = true) (e3 : Option Value) (he3 : mC1 e3 = true), RJ (d + 2) kX7_follow (none) 2 [e0, e1, e2, e3] [] (mH B (mE v [(y, u.1), (y + 2, u.2.1), (y + 3, u.2.2), (pg + 1, f_prg_op), (pg + 2, f_prg_number)]) w) Q) : ∀ (n : Nat) (y3 : Int32) (f_this : mF) (f_isSeen : mF) (f_open : mF), OX7_follow_b1 n y2 y3 f_this f_isSeen f_open f_prg_op f_prg_number → FX7_follow_b1 n y2 y3 f_this f_isSeen f_open f_prg_op f_prg_number = u → RJ (d + 2) kX7_follow (none) 1 [some (.ref y), some (.ref pg), some (.int y2), some (.int y3)] [] (mH B (mE v [(y, f_this), (y + 2, f_isSeen), (y + 3, f_open), (pg + 1, f_prg_op), (pg + 2, f_prg_number)]) w) Q := by
  intro n
  induction n with
  | zero => exact fun _ _ _ _ hO => hO.elim
  | succ n ih1 =>
    intro y3 f_this f_isSeen f_open hO hP
    rw [FX7_follow_b1] at hP
    rw [OX7_follow_b1] at hO
    have hn : ∀ (f_this : mF) (f_isSeen : mF) (f_open : mF) (f_prg_op : mF) (f_prg_number : mF), mNd [(y, f_this), (y + 2, f_isSeen), (y + 3, f_open), (pg + 1, f_prg_op), (pg + 2, f_prg_number)] := fun _ _ _ _ _ => by
      show List.Nodup _
      simp only [List.map_cons, List.map_nil, List.nodup_cons, List.mem_cons, List.not_mem_nil, or_false, not_or, not_false_eq_true, List.nodup_nil, and_true]
      omega
    show RB _ _ _ _ [some (.ref y), some (.ref pg), some (.int y2), some (.int y3)] [] _ _
    refine r_iload rfl ?_
    refine r_aload rfl ?_
    refine r_get (x := f_this 4) 0 (hn _ _ _ _ _) rfl hB.1 (by decide) rfl ?_
    refine r_icmp (fun c1 : (f_this 4) ≤ y3 => ?_) (fun c1 : ¬ ((f_this 4) ≤ y3) => ?_)
    · rw [if_pos c1] at hP
      have hO := hO.1 c1
      subst hP
      exact hK (some (.ref y)) rfl (some (.ref pg)) rfl (some (.int y2)) rfl (some (.int y3)) rfl
    · rw [if_neg c1] at hP
      have hO := hO.2 c1
      refine r_iload rfl ?_
      refine r_aload rfl ?_
      refine r_get (x := f_this 0) 0 (hn _ _ _ _ _) rfl hB.1 (by decide) rfl ?_
      refine r_icmp (fun c2 : (f_this 0) ≤ y3 => ?_) (fun c2 : ¬ ((f_this 0) ≤ y3) => ?_)
      · rw [if_pos c2] at hP
        have hO := hO.1 c2
        subst hP
        exact hK (some (.ref y)) rfl (some (.ref pg)) rfl (some (.int y2)) rfl (some (.int y3)) rfl
      · rw [if_neg c2] at hP
        have hO := hO.2 c2
        refine r_aload rfl ?_
        refine r_aload rfl ?_
        refine r_aload rfl ?_
        refine r_getr (q := y + 3) hB.1 hB.2.2.2.2.2.2 ?_
        refine r_iload rfl ?_
        obtain ⟨h3, hO⟩ := hO
        refine r_ald (x := f_open ((y3 : Int32).toNatClampNeg)) 2 ((y3 : Int32).toNatClampNeg) (hn _ _ _ _ _) rfl hB.2.2.2.1 (by decide) rfl h3 rfl rfl ?_
        refine r_iload rfl ?_
        obtain ⟨h5, hO⟩ := hO
        have k6 := fun (Q' : Option Int32 → mMH → Prop) hq => tX7_goOn (d := d + 0) (B := B) (v := mE v [(y, f_this), (y + 2, f_isSeen), (y + 3, f_open), (pg + 1, f_prg_op), (pg + 2, f_prg_number)]) (w := w) (Q := Q') hB hG (by omega) (f_open ((y3 : Int32).toNatClampNeg)) y2 f_this f_isSeen f_open f_prg_op f_prg_number h5 hq
        generalize hg_u4 : FX7_goOn (f_open ((y3 : Int32).toNatClampNeg)) y2 f_this f_isSeen f_open f_prg_op f_prg_number = u4 at k6 hP hO
        try dsimp only at hP hO
        refine r_callV (st := []) (o := y) (as := [.ref pg, .int (f_open ((y3 : Int32).toNatClampNeg)), .int y2]) (envc := [(y, f_this), (y + 2, f_isSeen), (y + 3, f_open), (pg + 1, f_prg_op), (pg + 2, f_prg_number)]) (envc' := [(y, u4.2.1), (y + 2, u4.2.2.1), (y + 3, u4.2.2.2), (pg + 1, f_prg_op), (pg + 2, f_prg_number)]) (env' := [(y, u4.2.1), (y + 2, u4.2.2.1), (y + 3, u4.2.2.2), (pg + 1, f_prg_op), (pg + 2, f_prg_number)]) (rv := none) [0, 1, 2, 3, 4] (hn _ _ _ _ _) rfl rfl (Nat.le_of_ble_eq_true rfl) hB.1 rfl rfl rfl k6 ?_
        show RB _ _ _ _ _ [] _ _
        refine r_iinc (L' := [some (.ref y), some (.ref pg), some (.int y2), some (.int (y3 + 1))]) rfl rfl rfl ?_
        refine r_goto ?_
        exact ih1 (y3 + 1) u4.2.1 u4.2.2.1 u4.2.2.2 hO hP
def FX7_follow (x2 : Int32) (f_this : mF) (f_isSeen : mF) (f_open : mF) (f_prg_op : mF) (f_prg_number : mF) : Int32 × mF × mF × mF :=
  let u7 := FX7_follow_b1 10000 x2 0 f_this f_isSeen f_open f_prg_op f_prg_number; (0, u7.1, u7.2.1, u7.2.2)
def OX7_follow (x2 : Int32) (f_this : mF) (f_isSeen : mF) (f_open : mF) (f_prg_op : mF) (f_prg_number : mF) : Prop :=
  OX7_follow_b1 10000 x2 0 f_this f_isSeen f_open f_prg_op f_prg_number
set_option maxRecDepth 20000 in
theorem tX7_follow {d : Nat} {B : mB} {v : mV} {w : mX} {Q : Option Int32 → mMH → Prop} {y pg : Nat} (hB : isWays B y) (hG : isPrg B pg) (hpg : pg + 14 ≤ y) (x2 : Int32) (f_this : mF) (f_isSeen : mF) (f_open : mF) (f_prg_op : mF) (f_prg_number : mF) (hO : OX7_follow x2 f_this f_isSeen f_open f_prg_op f_prg_number) (hQ : Q (none) (mH B (mE v [(y, (FX7_follow x2 f_this f_isSeen f_open f_prg_op f_prg_number).2.1), (y + 2, (FX7_follow x2 f_this f_isSeen f_open f_prg_op f_prg_number).2.2.1), (y + 3, (FX7_follow x2 f_this f_isSeen f_open f_prg_op f_prg_number).2.2.2), (pg + 1, f_prg_op), (pg + 2, f_prg_number)]) w)) : CQ (d + 3) 112 [.ref y, .ref pg, .int x2] (mH B (mE v [(y, f_this), (y + 2, f_isSeen), (y + 3, f_open), (pg + 1, f_prg_op), (pg + 2, f_prg_number)]) w) Q := by
  have hn : ∀ (f_this : mF) (f_isSeen : mF) (f_open : mF) (f_prg_op : mF) (f_prg_number : mF), mNd [(y, f_this), (y + 2, f_isSeen), (y + 3, f_open), (pg + 1, f_prg_op), (pg + 2, f_prg_number)] := fun _ _ _ _ _ => by
    show List.Nodup _
    simp only [List.map_cons, List.map_nil, List.nodup_cons, List.mem_cons, List.not_mem_nil, or_false, not_or, not_false_eq_true, List.nodup_nil, and_true]
    omega
  obtain ⟨P, hPQ, hP⟩ : ∃ P : Int32 × mF × mF × mF → Prop, (∀ (q : Int32) (q0 : mF) (q1 : mF) (q2 : mF), P (q, q0, q1, q2) → Q (none) (mH B (mE v [(y, q0), (y + 2, q1), (y + 3, q2), (pg + 1, f_prg_op), (pg + 2, f_prg_number)]) w)) ∧ P (FX7_follow x2 f_this f_isSeen f_open f_prg_op f_prg_number) := ⟨fun res => Q (none) (mH B (mE v [(y, res.2.1), (y + 2, res.2.2.1), (y + 3, res.2.2.2), (pg + 1, f_prg_op), (pg + 2, f_prg_number)]) w), fun _ _ _ _ h => h, hQ⟩
  refine r_begin mt_112 (by intro a ha; simp only [List.mem_cons, List.not_mem_nil, or_false] at ha; rcases ha with rfl | rfl | rfl <;> rfl) (Nat.le_of_ble_eq_true rfl) ?_
  rw [FX7_follow] at hP
  rw [OX7_follow] at hO
  show RB _ _ _ _ [some (.ref y), some (.ref pg), some (.int x2), none] [] _ _
  refine r_int ?_
  refine r_istore (L' := [some (.ref y), some (.ref pg), some (.int x2), some (.int 0)]) rfl rfl ?_
  refine r_fall ?_
  have h8 := hO
  generalize hg_u7 : FX7_follow_b1 10000 x2 0 f_this f_isSeen f_open f_prg_op f_prg_number = u7 at hP
  try dsimp only at hP
  refine tX7_follow_b1 hB hG hpg x2 (u := u7) (f_prg_op := f_prg_op) (f_prg_number := f_prg_number) ?_ 10000 0 f_this f_isSeen f_open h8 hg_u7
  intro e9 he9 e10 he10 e11 he11 e12 he12
  exact r_retv rfl (hPQ 0 u7.1 u7.2.1 u7.2.2 hP)

def FX7_begin_b1 : Nat → Int32 → mF → mF → mF
  | 0, _, _, f_isSeen => f_isSeen
  | n + 1, y2, f_this, f_isSeen =>
    if (f_this 0) ≤ y2 then (f_isSeen) else (let g3 := upd f_isSeen ((y2 : Int32).toNatClampNeg) 0; FX7_begin_b1 n (y2 + 1) f_this g3)
def OX7_begin_b1 : Nat → Int32 → mF → mF → Prop
  | 0, _, _, _ => False
  | n + 1, y2, f_this, f_isSeen =>
    ((f_this 0) ≤ y2 → True) ∧ (¬ ((f_this 0) ≤ y2) → (vp_in y2 100 ∧ (let g3 := upd f_isSeen ((y2 : Int32).toNatClampNeg) 0; OX7_begin_b1 n (y2 + 1) f_this g3)))
set_option maxRecDepth 20000 in
theorem tX7_begin_b1 {d : Nat} {B : mB} {v : mV} {w : mX} {Q : Option Int32 → mMH → Prop} {y pg : Nat} (hB : isWays B y) (hG : isPrg B pg) (hpg : pg + 14 ≤ y) {u : mF} {f_this : mF} {f_prg : mF} (hK : ∀ (e0 : Option Value) (he0 : mC1 e0 = true) (e1 : Option Value) (he1 : mC1 e1 = true) (e2 : Option Value) (he2 : mC1 e2 = true), RJ (d + 0) kX7_begin (none) 2 [e0, e1, e2] [] (mH B (mE v [(y, f_this), (y + 2, u), (pg, f_prg)]) w) Q) : ∀ (n : Nat) (y2 : Int32) (e1 : Option Value) (he1 : mC1 e1 = true) (f_isSeen : mF), OX7_begin_b1 n y2 f_this f_isSeen → FX7_begin_b1 n y2 f_this f_isSeen = u → RJ (d + 0) kX7_begin (none) 1 [some (.ref y), e1, some (.int y2)] [] (mH B (mE v [(y, f_this), (y + 2, f_isSeen), (pg, f_prg)]) w) Q := by
  intro n
  induction n with
  | zero => exact fun _ _ _ _ hO => hO.elim
  | succ n ih1 =>
    intro y2 e1 he1 f_isSeen hO hP
    rw [FX7_begin_b1] at hP
    rw [OX7_begin_b1] at hO
    have hn : ∀ (f_this : mF) (f_isSeen : mF) (f_prg : mF), mNd [(y, f_this), (y + 2, f_isSeen), (pg, f_prg)] := fun _ _ _ => by
      show List.Nodup _
      simp only [List.map_cons, List.map_nil, List.nodup_cons, List.mem_cons, List.not_mem_nil, or_false, not_or, not_false_eq_true, List.nodup_nil, and_true]
      omega
    show RB _ _ _ _ [some (.ref y), e1, some (.int y2)] [] _ _
    refine r_iload rfl ?_
    refine r_aload rfl ?_
    refine r_get (x := f_this 0) 0 (hn _ _ _) rfl hB.1 (by decide) rfl ?_
    refine r_icmp (fun c1 : (f_this 0) ≤ y2 => ?_) (fun c1 : ¬ ((f_this 0) ≤ y2) => ?_)
    · rw [if_pos c1] at hP
      have hO := hO.1 c1
      subst hP
      exact hK (some (.ref y)) rfl e1 he1 (some (.int y2)) rfl
    · rw [if_neg c1] at hP
      have hO := hO.2 c1
      refine r_aload rfl ?_
      refine r_getr (q := y + 2) hB.1 hB.2.2.2.2.2.1 ?_
      refine r_iload rfl ?_
      refine r_int ?_
      obtain ⟨h2, hO⟩ := hO
      refine r_ast (y := 0) (env' := [(y, f_this), (y + 2, (upd f_isSeen ((y2 : Int32).toNatClampNeg) 0)), (pg, f_prg)]) 1 ((y2 : Int32).toNatClampNeg) (hn _ _ _) rfl hB.2.2.1 (by decide) (Or.inr rfl) h2 rfl rfl rfl ?_
      generalize hg_g3 : upd f_isSeen ((y2 : Int32).toNatClampNeg) 0 = g3 at hP hO ⊢
      try dsimp only at hP hO
      refine r_iinc (L' := [some (.ref y), e1, some (.int (y2 + 1))]) rfl (mNL_e (e := e1) rfl he1) rfl ?_
      refine r_goto ?_
      exact ih1 (y2 + 1) e1 he1 g3 hO hP
def FX7_begin (f_this : mF) (f_isSeen : mF) (f_prg : mF) : Int32 × mF × mF :=
  let u4 := FX7_begin_b1 10000 0 (upd (upd f_this 0 (f_prg 1)) 4 0) f_isSeen; (0, (upd (upd f_this 0 (f_prg 1)) 4 0), u4)
def OX7_begin (f_this : mF) (f_isSeen : mF) (f_prg : mF) : Prop :=
  OX7_begin_b1 10000 0 (upd (upd f_this 0 (f_prg 1)) 4 0) f_isSeen
set_option maxRecDepth 20000 in
theorem tX7_begin {d : Nat} {B : mB} {v : mV} {w : mX} {Q : Option Int32 → mMH → Prop} {y pg : Nat} (hB : isWays B y) (hG : isPrg B pg) (hpg : pg + 14 ≤ y) (f_this : mF) (f_isSeen : mF) (f_prg : mF) (hO : OX7_begin f_this f_isSeen f_prg) (hQ : Q (none) (mH B (mE v [(y, (FX7_begin f_this f_isSeen f_prg).2.1), (y + 2, (FX7_begin f_this f_isSeen f_prg).2.2), (pg, f_prg)]) w)) : CQ (d + 1) 111 [.ref y, .ref pg] (mH B (mE v [(y, f_this), (y + 2, f_isSeen), (pg, f_prg)]) w) Q := by
  have hn : ∀ (f_this : mF) (f_isSeen : mF) (f_prg : mF), mNd [(y, f_this), (y + 2, f_isSeen), (pg, f_prg)] := fun _ _ _ => by
    show List.Nodup _
    simp only [List.map_cons, List.map_nil, List.nodup_cons, List.mem_cons, List.not_mem_nil, or_false, not_or, not_false_eq_true, List.nodup_nil, and_true]
    omega
  obtain ⟨P, hPQ, hP⟩ : ∃ P : Int32 × mF × mF → Prop, (∀ (q : Int32) (q0 : mF) (q1 : mF), P (q, q0, q1) → Q (none) (mH B (mE v [(y, q0), (y + 2, q1), (pg, f_prg)]) w)) ∧ P (FX7_begin f_this f_isSeen f_prg) := ⟨fun res => Q (none) (mH B (mE v [(y, res.2.1), (y + 2, res.2.2), (pg, f_prg)]) w), fun _ _ _ h => h, hQ⟩
  refine r_begin mt_111 (by intro a ha; simp only [List.mem_cons, List.not_mem_nil, or_false] at ha; rcases ha with rfl | rfl <;> rfl) (Nat.le_of_ble_eq_true rfl) ?_
  rw [FX7_begin] at hP
  rw [OX7_begin] at hO
  show RB _ _ _ _ [some (.ref y), some (.ref pg), none] [] _ _
  refine r_aload rfl ?_
  refine r_aload rfl ?_
  refine r_get (x := f_prg 1) 2 (hn _ _ _) rfl hG.1 (by decide) rfl ?_
  refine r_put (env' := [(y, (upd f_this 0 (f_prg 1))), (y + 2, f_isSeen), (pg, f_prg)]) 0 (hn _ _ _) rfl rfl hB.1 ?_
  refine r_aload rfl ?_
  refine r_int ?_
  refine r_put (env' := [(y, (upd (upd f_this 0 (f_prg 1)) 4 0)), (y + 2, f_isSeen), (pg, f_prg)]) 0 (hn _ _ _) rfl rfl hB.1 ?_
  refine r_int ?_
  refine r_istore (L' := [some (.ref y), some (.ref pg), some (.int 0)]) rfl rfl ?_
  refine r_fall ?_
  have h5 := hO
  generalize hg_u4 : FX7_begin_b1 10000 0 (upd (upd f_this 0 (f_prg 1)) 4 0) f_isSeen = u4 at hP
  try dsimp only at hP
  refine tX7_begin_b1 hB hG hpg (u := u4) (f_this := (upd (upd f_this 0 (f_prg 1)) 4 0)) (f_prg := f_prg) ?_ 10000 0 (some (.ref pg)) rfl f_isSeen h5 hg_u4
  intro e6 he6 e7 he7 e8 he8
  exact r_retv rfl (hPQ 0 (upd (upd f_this 0 (f_prg 1)) 4 0) u4 hP)

def FX7_pick_b1 : Nat → Int32 → Int32 → Int32 → mF → mF → Int32
  | 0, _, _, _, _, _ => 0
  | n + 1, y1, y2, y3, f_this, f_isPicked =>
    if (f_this 0) ≤ y3 then (if y1 = (-1) then (y2) else ((-2))) else (if (f_isPicked ((y3 : Int32).toNatClampNeg)) = 0 then (FX7_pick_b1 n y1 y2 (y3 + 1) f_this f_isPicked) else (if y2 = y1 then (y3) else (FX7_pick_b1 n y1 (y2 + 1) (y3 + 1) f_this f_isPicked)))
def OX7_pick_b1 : Nat → Int32 → Int32 → Int32 → mF → mF → Prop
  | 0, _, _, _, _, _ => False
  | n + 1, y1, y2, y3, f_this, f_isPicked =>
    ((f_this 0) ≤ y3 → True) ∧ (¬ ((f_this 0) ≤ y3) → (vp_in y3 100 ∧ (((f_isPicked ((y3 : Int32).toNatClampNeg)) = 0 → (OX7_pick_b1 n y1 y2 (y3 + 1) f_this f_isPicked)) ∧ (¬ ((f_isPicked ((y3 : Int32).toNatClampNeg)) = 0) → ((y2 = y1 → True) ∧ (¬ (y2 = y1) → (OX7_pick_b1 n y1 (y2 + 1) (y3 + 1) f_this f_isPicked)))))))
set_option maxRecDepth 20000 in
theorem tX7_pick_b1 {d : Nat} {B : mB} {v : mV} {w : mX} {Q : Option Int32 → mMH → Prop} {y : Nat} (hB : isWays B y) {P : Int32 → Prop} {f_this : mF} {f_isPicked : mF} (hPQ : ∀ (q : Int32), P q → Q (some q) (mH B (mE v [(y, f_this), (y + 1, f_isPicked)]) w)) : ∀ (n : Nat) (y1 : Int32) (y2 : Int32) (y3 : Int32), OX7_pick_b1 n y1 y2 y3 f_this f_isPicked → P (FX7_pick_b1 n y1 y2 y3 f_this f_isPicked) → RJ (d + 0) kX7_pick (some .int) 1 [some (.ref y), some (.int y1), some (.int y2), some (.int y3)] [] (mH B (mE v [(y, f_this), (y + 1, f_isPicked)]) w) Q := by
  intro n
  induction n with
  | zero => exact fun _ _ _ hO => hO.elim
  | succ n ih1 =>
    intro y1 y2 y3 hO hP
    rw [FX7_pick_b1] at hP
    rw [OX7_pick_b1] at hO
    have hn : ∀ (f_this : mF) (f_isPicked : mF), mNd [(y, f_this), (y + 1, f_isPicked)] := fun _ _ => by
      show List.Nodup _
      simp only [List.map_cons, List.map_nil, List.nodup_cons, List.mem_cons, List.not_mem_nil, or_false, not_or, not_false_eq_true, List.nodup_nil, and_true]
      omega
    show RB _ _ _ _ [some (.ref y), some (.int y1), some (.int y2), some (.int y3)] [] _ _
    refine r_iload rfl ?_
    refine r_aload rfl ?_
    refine r_get (x := f_this 0) 0 (hn _ _) rfl hB.1 (by decide) rfl ?_
    refine r_icmp (fun c1 : (f_this 0) ≤ y3 => ?_) (fun c1 : ¬ ((f_this 0) ≤ y3) => ?_)
    · rw [if_pos c1] at hP
      have hO := hO.1 c1
      refine r_iload rfl ?_
      refine r_int ?_
      refine r_icmp1 (fun c2 : y1 = (-1) => ?_) (fun c2 : ¬ (y1 = (-1)) => ?_)
      · rw [if_pos c2] at hP
        refine r_iload rfl ?_
        refine r_goto ?_
        exact r_ret rfl rfl (hPQ y2 hP)
      · rw [if_neg c2] at hP
        refine r_int ?_
        refine r_fall ?_
        exact r_ret rfl rfl (hPQ (-2) hP)
    · rw [if_neg c1] at hP
      have hO := hO.2 c1
      refine r_aload rfl ?_
      refine r_getr (q := y + 1) hB.1 hB.2.2.2.2.1 ?_
      refine r_iload rfl ?_
      obtain ⟨h3, hO⟩ := hO
      refine r_ald (x := f_isPicked ((y3 : Int32).toNatClampNeg)) 1 ((y3 : Int32).toNatClampNeg) (hn _ _) rfl hB.2.1 (by decide) (Or.inr rfl) h3 rfl rfl ?_
      refine r_if (fun c4 : (f_isPicked ((y3 : Int32).toNatClampNeg)) = 0 => ?_) (fun c4 : ¬ ((f_isPicked ((y3 : Int32).toNatClampNeg)) = 0) => ?_)
      · rw [if_pos c4] at hP
        have hO := hO.1 c4
        refine r_iinc (L' := [some (.ref y), some (.int y1), some (.int y2), some (.int (y3 + 1))]) rfl rfl rfl ?_
        refine r_goto ?_
        exact ih1 y1 y2 (y3 + 1) hO hP
      · rw [if_neg c4] at hP
        have hO := hO.2 c4
        refine r_iload rfl ?_
        refine r_iload rfl ?_
        refine r_icmp1 (fun c5 : y2 = y1 => ?_) (fun c5 : ¬ (y2 = y1) => ?_)
        · rw [if_pos c5] at hP
          have hO := hO.1 c5
          refine r_iload rfl ?_
          exact r_ret rfl rfl (hPQ y3 hP)
        · rw [if_neg c5] at hP
          have hO := hO.2 c5
          refine r_iinc (L' := [some (.ref y), some (.int y1), some (.int (y2 + 1)), some (.int y3)]) rfl rfl rfl ?_
          refine r_fall ?_
          refine r_iinc (L' := [some (.ref y), some (.int y1), some (.int (y2 + 1)), some (.int (y3 + 1))]) rfl rfl rfl ?_
          refine r_goto ?_
          exact ih1 y1 (y2 + 1) (y3 + 1) hO hP
def FX7_pick (x1 : Int32) (f_this : mF) (f_isPicked : mF) : Int32 :=
  FX7_pick_b1 10000 x1 0 0 f_this f_isPicked
def OX7_pick (x1 : Int32) (f_this : mF) (f_isPicked : mF) : Prop :=
  OX7_pick_b1 10000 x1 0 0 f_this f_isPicked
set_option maxRecDepth 20000 in
theorem tX7_pick {d : Nat} {B : mB} {v : mV} {w : mX} {Q : Option Int32 → mMH → Prop} {y : Nat} (hB : isWays B y) (x1 : Int32) (f_this : mF) (f_isPicked : mF) (hO : OX7_pick x1 f_this f_isPicked) (hQ : Q (some (FX7_pick x1 f_this f_isPicked)) (mH B (mE v [(y, f_this), (y + 1, f_isPicked)]) w)) : CQ (d + 1) 110 [.ref y, .int x1] (mH B (mE v [(y, f_this), (y + 1, f_isPicked)]) w) Q := by
  have hn : ∀ (f_this : mF) (f_isPicked : mF), mNd [(y, f_this), (y + 1, f_isPicked)] := fun _ _ => by
    show List.Nodup _
    simp only [List.map_cons, List.map_nil, List.nodup_cons, List.mem_cons, List.not_mem_nil, or_false, not_or, not_false_eq_true, List.nodup_nil, and_true]
    omega
  obtain ⟨P, hPQ, hP⟩ : ∃ P : Int32 → Prop, (∀ (q : Int32), P q → Q (some q) (mH B (mE v [(y, f_this), (y + 1, f_isPicked)]) w)) ∧ P (FX7_pick x1 f_this f_isPicked) := ⟨fun res => Q (some res) (mH B (mE v [(y, f_this), (y + 1, f_isPicked)]) w), fun _ h => h, hQ⟩
  refine r_begin mt_110 (by intro a ha; simp only [List.mem_cons, List.not_mem_nil, or_false] at ha; rcases ha with rfl | rfl <;> rfl) (Nat.le_of_ble_eq_true rfl) ?_
  rw [FX7_pick] at hP
  rw [OX7_pick] at hO
  show RB _ _ _ _ [some (.ref y), some (.int x1), none, none] [] _ _
  refine r_int ?_
  refine r_istore (L' := [some (.ref y), some (.int x1), some (.int 0), none]) rfl rfl ?_
  refine r_int ?_
  refine r_istore (L' := [some (.ref y), some (.int x1), some (.int 0), some (.int 0)]) rfl rfl ?_
  refine r_fall ?_
  exact tX7_pick_b1 hB hPQ 10000 x1 0 0 hO hP

def FX7_comeFrom (x2 : Int32) (f_this : mF) (f_isPicked : mF) (f_isSeen : mF) (f_open : mF) (f_prg : mF) (f_prg_op : mF) (f_prg_number : mF) : Int32 × mF × mF × mF × mF :=
  let u1 := FX7_begin f_this f_isSeen f_prg; let u3 := FX7_see x2 u1.2.1 u1.2.2 f_open; let u5 := FX7_follow 1 u3.2.1 u3.2.2.1 u3.2.2.2 f_prg_op f_prg_number; (0, u5.2.1, (va_cpy u5.2.2.1 f_isPicked 0 0 ((u5.2.1 0 : Int32).toNatClampNeg)), u5.2.2.1, u5.2.2.2)
def OX7_comeFrom (x2 : Int32) (f_this : mF) (f_isPicked : mF) (f_isSeen : mF) (f_open : mF) (f_prg : mF) (f_prg_op : mF) (f_prg_number : mF) : Prop :=
  OX7_begin f_this f_isSeen f_prg ∧ (let u1 := FX7_begin f_this f_isSeen f_prg; OX7_see x2 u1.2.1 u1.2.2 f_open ∧ (let u3 := FX7_see x2 u1.2.1 u1.2.2 f_open; OX7_follow 1 u3.2.1 u3.2.2.1 u3.2.2.2 f_prg_op f_prg_number ∧ (let u5 := FX7_follow 1 u3.2.1 u3.2.2.1 u3.2.2.2 f_prg_op f_prg_number; (¬ (u5.2.1 0 : Int32) < 0) ∧ (0 + ((u5.2.1 0 : Int32).toNatClampNeg) ≤ 100) ∧ (0 + ((u5.2.1 0 : Int32).toNatClampNeg) ≤ 100) ∧ (∀ i, i < ((u5.2.1 0 : Int32).toNatClampNeg) → fits .boolean (.int (u5.2.2.1 (0 + i))) = true))))
set_option maxRecDepth 20000 in
theorem tX7_comeFrom {d : Nat} {B : mB} {v : mV} {w : mX} {Q : Option Int32 → mMH → Prop} {y pg : Nat} (hB : isWays B y) (hG : isPrg B pg) (hpg : pg + 14 ≤ y) (x2 : Int32) (f_this : mF) (f_isPicked : mF) (f_isSeen : mF) (f_open : mF) (f_prg : mF) (f_prg_op : mF) (f_prg_number : mF) (hO : OX7_comeFrom x2 f_this f_isPicked f_isSeen f_open f_prg f_prg_op f_prg_number) (hQ : Q (none) (mH B (mE v [(y, (FX7_comeFrom x2 f_this f_isPicked f_isSeen f_open f_prg f_prg_op f_prg_number).2.1), (y + 1, (FX7_comeFrom x2 f_this f_isPicked f_isSeen f_open f_prg f_prg_op f_prg_number).2.2.1), (y + 2, (FX7_comeFrom x2 f_this f_isPicked f_isSeen f_open f_prg f_prg_op f_prg_number).2.2.2.1), (y + 3, (FX7_comeFrom x2 f_this f_isPicked f_isSeen f_open f_prg f_prg_op f_prg_number).2.2.2.2), (pg, f_prg), (pg + 1, f_prg_op), (pg + 2, f_prg_number)]) w)) : CQ (d + 4) 108 [.ref y, .ref pg, .int x2] (mH B (mE v [(y, f_this), (y + 1, f_isPicked), (y + 2, f_isSeen), (y + 3, f_open), (pg, f_prg), (pg + 1, f_prg_op), (pg + 2, f_prg_number)]) w) Q := by
  have hn : ∀ (f_this : mF) (f_isPicked : mF) (f_isSeen : mF) (f_open : mF) (f_prg : mF) (f_prg_op : mF) (f_prg_number : mF), mNd [(y, f_this), (y + 1, f_isPicked), (y + 2, f_isSeen), (y + 3, f_open), (pg, f_prg), (pg + 1, f_prg_op), (pg + 2, f_prg_number)] := fun _ _ _ _ _ _ _ => by
    show List.Nodup _
    simp only [List.map_cons, List.map_nil, List.nodup_cons, List.mem_cons, List.not_mem_nil, or_false, not_or, not_false_eq_true, List.nodup_nil, and_true]
    omega
  obtain ⟨P, hPQ, hP⟩ : ∃ P : Int32 × mF × mF × mF × mF → Prop, (∀ (q : Int32) (q0 : mF) (q1 : mF) (q2 : mF) (q3 : mF), P (q, q0, q1, q2, q3) → Q (none) (mH B (mE v [(y, q0), (y + 1, q1), (y + 2, q2), (y + 3, q3), (pg, f_prg), (pg + 1, f_prg_op), (pg + 2, f_prg_number)]) w)) ∧ P (FX7_comeFrom x2 f_this f_isPicked f_isSeen f_open f_prg f_prg_op f_prg_number) := ⟨fun res => Q (none) (mH B (mE v [(y, res.2.1), (y + 1, res.2.2.1), (y + 2, res.2.2.2.1), (y + 3, res.2.2.2.2), (pg, f_prg), (pg + 1, f_prg_op), (pg + 2, f_prg_number)]) w), fun _ _ _ _ _ h => h, hQ⟩
  refine r_begin mt_108 (by intro a ha; simp only [List.mem_cons, List.not_mem_nil, or_false] at ha; rcases ha with rfl | rfl | rfl <;> rfl) (Nat.le_of_ble_eq_true rfl) ?_
  rw [FX7_comeFrom] at hP
  rw [OX7_comeFrom] at hO
  show RB _ _ _ _ [some (.ref y), some (.ref pg), some (.int x2)] [] _ _
  refine r_aload rfl ?_
  refine r_aload rfl ?_
  obtain ⟨h2, hO⟩ := hO
  have k13 := fun (Q' : Option Int32 → mMH → Prop) hq => tX7_begin (d := d + 2) (B := B) (v := mE v [(y, f_this), (y + 1, f_isPicked), (y + 2, f_isSeen), (y + 3, f_open), (pg, f_prg), (pg + 1, f_prg_op), (pg + 2, f_prg_number)]) (w := w) (Q := Q') hB hG (by omega) f_this f_isSeen f_prg h2 hq
  generalize hg_u1 : FX7_begin f_this f_isSeen f_prg = u1 at k13 hP hO
  try dsimp only at hP hO
  refine r_callV (st := []) (o := y) (as := [.ref pg]) (envc := [(y, f_this), (y + 2, f_isSeen), (pg, f_prg)]) (envc' := [(y, u1.2.1), (y + 2, u1.2.2), (pg, f_prg)]) (env' := [(y, u1.2.1), (y + 1, f_isPicked), (y + 2, u1.2.2), (y + 3, f_open), (pg, f_prg), (pg + 1, f_prg_op), (pg + 2, f_prg_number)]) (rv := none) [0, 2, 4] (hn _ _ _ _ _ _ _) rfl rfl (Nat.le_of_ble_eq_true rfl) hB.1 rfl rfl rfl k13 ?_
  show RB _ _ _ _ _ [] _ _
  refine r_aload rfl ?_
  refine r_iload rfl ?_
  obtain ⟨h4, hO⟩ := hO
  have k12 := fun (Q' : Option Int32 → mMH → Prop) hq => tX7_see (d := d + 2) (B := B) (v := mE v [(y, u1.2.1), (y + 1, f_isPicked), (y + 2, u1.2.2), (y + 3, f_open), (pg, f_prg), (pg + 1, f_prg_op), (pg + 2, f_prg_number)]) (w := w) (Q := Q') hB x2 u1.2.1 u1.2.2 f_open h4 hq
  generalize hg_u3 : FX7_see x2 u1.2.1 u1.2.2 f_open = u3 at k12 hP hO
  try dsimp only at hP hO
  refine r_callV (st := []) (o := y) (as := [.int x2]) (envc := [(y, u1.2.1), (y + 2, u1.2.2), (y + 3, f_open)]) (envc' := [(y, u3.2.1), (y + 2, u3.2.2.1), (y + 3, u3.2.2.2)]) (env' := [(y, u3.2.1), (y + 1, f_isPicked), (y + 2, u3.2.2.1), (y + 3, u3.2.2.2), (pg, f_prg), (pg + 1, f_prg_op), (pg + 2, f_prg_number)]) (rv := none) [0, 2, 3] (hn _ _ _ _ _ _ _) rfl rfl (Nat.le_of_ble_eq_true rfl) hB.1 rfl rfl rfl k12 ?_
  show RB _ _ _ _ _ [] _ _
  refine r_aload rfl ?_
  refine r_aload rfl ?_
  refine r_int ?_
  obtain ⟨h6, hO⟩ := hO
  have k11 := fun (Q' : Option Int32 → mMH → Prop) hq => tX7_follow (d := d + 0) (B := B) (v := mE v [(y, u3.2.1), (y + 1, f_isPicked), (y + 2, u3.2.2.1), (y + 3, u3.2.2.2), (pg, f_prg), (pg + 1, f_prg_op), (pg + 2, f_prg_number)]) (w := w) (Q := Q') hB hG (by omega) 1 u3.2.1 u3.2.2.1 u3.2.2.2 f_prg_op f_prg_number h6 hq
  generalize hg_u5 : FX7_follow 1 u3.2.1 u3.2.2.1 u3.2.2.2 f_prg_op f_prg_number = u5 at k11 hP hO
  try dsimp only at hP hO
  refine r_callV (st := []) (o := y) (as := [.ref pg, .int 1]) (envc := [(y, u3.2.1), (y + 2, u3.2.2.1), (y + 3, u3.2.2.2), (pg + 1, f_prg_op), (pg + 2, f_prg_number)]) (envc' := [(y, u5.2.1), (y + 2, u5.2.2.1), (y + 3, u5.2.2.2), (pg + 1, f_prg_op), (pg + 2, f_prg_number)]) (env' := [(y, u5.2.1), (y + 1, f_isPicked), (y + 2, u5.2.2.1), (y + 3, u5.2.2.2), (pg, f_prg), (pg + 1, f_prg_op), (pg + 2, f_prg_number)]) (rv := none) [0, 2, 3, 5, 6] (hn _ _ _ _ _ _ _) rfl rfl (Nat.le_of_ble_eq_true rfl) hB.1 rfl rfl rfl k11 ?_
  show RB _ _ _ _ _ [] _ _
  refine r_aload rfl ?_
  refine r_getr (q := y + 2) hB.1 hB.2.2.2.2.2.1 ?_
  refine r_int ?_
  refine r_aload rfl ?_
  refine r_getr (q := y + 1) hB.1 hB.2.2.2.2.1 ?_
  refine r_int ?_
  refine r_aload rfl ?_
  refine r_get (x := u5.2.1 0) 0 (hn _ _ _ _ _ _ _) rfl hB.1 (by decide) rfl ?_
  obtain ⟨h7, h8, h9, h10⟩ := hO
  refine r_copy (env' := [(y, u5.2.1), (y + 1, (va_cpy u5.2.2.1 f_isPicked 0 0 ((u5.2.1 0 : Int32).toNatClampNeg))), (y + 2, u5.2.2.1), (y + 3, u5.2.2.2), (pg, f_prg), (pg + 1, f_prg_op), (pg + 2, f_prg_number)]) 2 1 (hn _ _ _ _ _ _ _) rfl rfl hB.2.2.1 hB.2.1 (by decide) (by decide) (by decide) (by decide) h7 h8 h9 h10 (Nat.le_of_ble_eq_true rfl) rfl ?_
  exact r_retv rfl (hPQ 0 u5.2.1 (va_cpy u5.2.2.1 f_isPicked 0 0 ((u5.2.1 0 : Int32).toNatClampNeg)) u5.2.2.1 u5.2.2.2 hP)

def FX7_comeBack_b1 : Nat → Int32 → mF → mF → mF → mF → mF → mF → mF → mF × mF × mF × mF
  | 0, _, f_this, f_isPicked, f_isSeen, f_open, _, _, _ => (f_this, f_isPicked, f_isSeen, f_open)
  | n + 1, y2, f_this, f_isPicked, f_isSeen, f_open, f_prg, f_prg_op, f_prg_number =>
    if (f_this 0) ≤ y2 then ((f_this, f_isPicked, f_isSeen, f_open)) else (let u2 := FX7_begin f_this f_isSeen f_prg; let u4 := FX7_goOn y2 0 u2.2.1 u2.2.2 f_open f_prg_op f_prg_number; let u6 := FX7_follow 0 u4.2.1 u4.2.2.1 u4.2.2.2 f_prg_op f_prg_number; let g10 := upd f_isPicked ((y2 : Int32).toNatClampNeg) (mNr 22 (u6.2.2.1 ((y2 : Int32).toNatClampNeg))); FX7_comeBack_b1 n (y2 + 1) u6.2.1 g10 u6.2.2.1 u6.2.2.2 f_prg f_prg_op f_prg_number)
def OX7_comeBack_b1 : Nat → Int32 → mF → mF → mF → mF → mF → mF → mF → Prop
  | 0, _, _, _, _, _, _, _, _ => False
  | n + 1, y2, f_this, f_isPicked, f_isSeen, f_open, f_prg, f_prg_op, f_prg_number =>
    ((f_this 0) ≤ y2 → True) ∧ (¬ ((f_this 0) ≤ y2) → (OX7_begin f_this f_isSeen f_prg ∧ (let u2 := FX7_begin f_this f_isSeen f_prg; OX7_goOn y2 0 u2.2.1 u2.2.2 f_open f_prg_op f_prg_number ∧ (let u4 := FX7_goOn y2 0 u2.2.1 u2.2.2 f_open f_prg_op f_prg_number; OX7_follow 0 u4.2.1 u4.2.2.1 u4.2.2.2 f_prg_op f_prg_number ∧ (let u6 := FX7_follow 0 u4.2.1 u4.2.2.1 u4.2.2.2 f_prg_op f_prg_number; vp_in y2 100 ∧ (vp_in y2 100 ∧ (let g10 := upd f_isPicked ((y2 : Int32).toNatClampNeg) (mNr 22 (u6.2.2.1 ((y2 : Int32).toNatClampNeg))); OX7_comeBack_b1 n (y2 + 1) u6.2.1 g10 u6.2.2.1 u6.2.2.2 f_prg f_prg_op f_prg_number)))))))
set_option maxRecDepth 20000 in
theorem tX7_comeBack_b1 {d : Nat} {B : mB} {v : mV} {w : mX} {Q : Option Int32 → mMH → Prop} {y pg : Nat} (hB : isWays B y) (hG : isPrg B pg) (hpg : pg + 14 ≤ y) {u : mF × mF × mF × mF} {f_prg : mF} {f_prg_op : mF} {f_prg_number : mF} (hK : ∀ (e0 : Option Value) (he0 : mC1 e0 = true) (e1 : Option Value) (he1 : mC1 e1 = true) (e2 : Option Value) (he2 : mC1 e2 = true), RJ (d + 3) kX7_comeBack (none) 2 [e0, e1, e2] [] (mH B (mE v [(y, u.1), (y + 1, u.2.1), (y + 2, u.2.2.1), (y + 3, u.2.2.2), (pg, f_prg), (pg + 1, f_prg_op), (pg + 2, f_prg_number)]) w) Q) : ∀ (n : Nat) (y2 : Int32) (f_this : mF) (f_isPicked : mF) (f_isSeen : mF) (f_open : mF), OX7_comeBack_b1 n y2 f_this f_isPicked f_isSeen f_open f_prg f_prg_op f_prg_number → FX7_comeBack_b1 n y2 f_this f_isPicked f_isSeen f_open f_prg f_prg_op f_prg_number = u → RJ (d + 3) kX7_comeBack (none) 1 [some (.ref y), some (.ref pg), some (.int y2)] [] (mH B (mE v [(y, f_this), (y + 1, f_isPicked), (y + 2, f_isSeen), (y + 3, f_open), (pg, f_prg), (pg + 1, f_prg_op), (pg + 2, f_prg_number)]) w) Q := by
  intro n
  induction n with
  | zero => exact fun _ _ _ _ _ hO => hO.elim
  | succ n ih1 =>
    intro y2 f_this f_isPicked f_isSeen f_open hO hP
    rw [FX7_comeBack_b1] at hP
    rw [OX7_comeBack_b1] at hO
    have hn : ∀ (f_this : mF) (f_isPicked : mF) (f_isSeen : mF) (f_open : mF) (f_prg : mF) (f_prg_op : mF) (f_prg_number : mF), mNd [(y, f_this), (y + 1, f_isPicked), (y + 2, f_isSeen), (y + 3, f_open), (pg, f_prg), (pg + 1, f_prg_op), (pg + 2, f_prg_number)] := fun _ _ _ _ _ _ _ => by
      show List.Nodup _
      simp only [List.map_cons, List.map_nil, List.nodup_cons, List.mem_cons, List.not_mem_nil, or_false, not_or, not_false_eq_true, List.nodup_nil, and_true]
      omega
    show RB _ _ _ _ [some (.ref y), some (.ref pg), some (.int y2)] [] _ _
    refine r_iload rfl ?_
    refine r_aload rfl ?_
    refine r_get (x := f_this 0) 0 (hn _ _ _ _ _ _ _) rfl hB.1 (by decide) rfl ?_
    refine r_icmp (fun c1 : (f_this 0) ≤ y2 => ?_) (fun c1 : ¬ ((f_this 0) ≤ y2) => ?_)
    · rw [if_pos c1] at hP
      have hO := hO.1 c1
      subst hP
      exact hK (some (.ref y)) rfl (some (.ref pg)) rfl (some (.int y2)) rfl
    · rw [if_neg c1] at hP
      have hO := hO.2 c1
      refine r_aload rfl ?_
      refine r_aload rfl ?_
      obtain ⟨h3, hO⟩ := hO
      have k13 := fun (Q' : Option Int32 → mMH → Prop) hq => tX7_begin (d := d + 2) (B := B) (v := mE v [(y, f_this), (y + 1, f_isPicked), (y + 2, f_isSeen), (y + 3, f_open), (pg, f_prg), (pg + 1, f_prg_op), (pg + 2, f_prg_number)]) (w := w) (Q := Q') hB hG (by omega) f_this f_isSeen f_prg h3 hq
      generalize hg_u2 : FX7_begin f_this f_isSeen f_prg = u2 at k13 hP hO
      try dsimp only at hP hO
      refine r_callV (st := []) (o := y) (as := [.ref pg]) (envc := [(y, f_this), (y + 2, f_isSeen), (pg, f_prg)]) (envc' := [(y, u2.2.1), (y + 2, u2.2.2), (pg, f_prg)]) (env' := [(y, u2.2.1), (y + 1, f_isPicked), (y + 2, u2.2.2), (y + 3, f_open), (pg, f_prg), (pg + 1, f_prg_op), (pg + 2, f_prg_number)]) (rv := none) [0, 2, 4] (hn _ _ _ _ _ _ _) rfl rfl (Nat.le_of_ble_eq_true rfl) hB.1 rfl rfl rfl k13 ?_
      show RB _ _ _ _ _ [] _ _
      refine r_aload rfl ?_
      refine r_aload rfl ?_
      refine r_iload rfl ?_
      refine r_int ?_
      obtain ⟨h5, hO⟩ := hO
      have k12 := fun (Q' : Option Int32 → mMH → Prop) hq => tX7_goOn (d := d + 1) (B := B) (v := mE v [(y, u2.2.1), (y + 1, f_isPicked), (y + 2, u2.2.2), (y + 3, f_open), (pg, f_prg), (pg + 1, f_prg_op), (pg + 2, f_prg_number)]) (w := w) (Q := Q') hB hG (by omega) y2 0 u2.2.1 u2.2.2 f_open f_prg_op f_prg_number h5 hq
      generalize hg_u4 : FX7_goOn y2 0 u2.2.1 u2.2.2 f_open f_prg_op f_prg_number = u4 at k12 hP hO
      try dsimp only at hP hO
      refine r_callV (st := []) (o := y) (as := [.ref pg, .int y2, .int 0]) (envc := [(y, u2.2.1), (y + 2, u2.2.2), (y + 3, f_open), (pg + 1, f_prg_op), (pg + 2, f_prg_number)]) (envc' := [(y, u4.2.1), (y + 2, u4.2.2.1), (y + 3, u4.2.2.2), (pg + 1, f_prg_op), (pg + 2, f_prg_number)]) (env' := [(y, u4.2.1), (y + 1, f_isPicked), (y + 2, u4.2.2.1), (y + 3, u4.2.2.2), (pg, f_prg), (pg + 1, f_prg_op), (pg + 2, f_prg_number)]) (rv := none) [0, 2, 3, 5, 6] (hn _ _ _ _ _ _ _) rfl rfl (Nat.le_of_ble_eq_true rfl) hB.1 rfl rfl rfl k12 ?_
      show RB _ _ _ _ _ [] _ _
      refine r_aload rfl ?_
      refine r_aload rfl ?_
      refine r_int ?_
      obtain ⟨h7, hO⟩ := hO
      have k11 := fun (Q' : Option Int32 → mMH → Prop) hq => tX7_follow (d := d + 0) (B := B) (v := mE v [(y, u4.2.1), (y + 1, f_isPicked), (y + 2, u4.2.2.1), (y + 3, u4.2.2.2), (pg, f_prg), (pg + 1, f_prg_op), (pg + 2, f_prg_number)]) (w := w) (Q := Q') hB hG (by omega) 0 u4.2.1 u4.2.2.1 u4.2.2.2 f_prg_op f_prg_number h7 hq
      generalize hg_u6 : FX7_follow 0 u4.2.1 u4.2.2.1 u4.2.2.2 f_prg_op f_prg_number = u6 at k11 hP hO
      try dsimp only at hP hO
      refine r_callV (st := []) (o := y) (as := [.ref pg, .int 0]) (envc := [(y, u4.2.1), (y + 2, u4.2.2.1), (y + 3, u4.2.2.2), (pg + 1, f_prg_op), (pg + 2, f_prg_number)]) (envc' := [(y, u6.2.1), (y + 2, u6.2.2.1), (y + 3, u6.2.2.2), (pg + 1, f_prg_op), (pg + 2, f_prg_number)]) (env' := [(y, u6.2.1), (y + 1, f_isPicked), (y + 2, u6.2.2.1), (y + 3, u6.2.2.2), (pg, f_prg), (pg + 1, f_prg_op), (pg + 2, f_prg_number)]) (rv := none) [0, 2, 3, 5, 6] (hn _ _ _ _ _ _ _) rfl rfl (Nat.le_of_ble_eq_true rfl) hB.1 rfl rfl rfl k11 ?_
      show RB _ _ _ _ _ [] _ _
      refine r_aload rfl ?_
      refine r_getr (q := y + 1) hB.1 hB.2.2.2.2.1 ?_
      refine r_iload rfl ?_
      refine r_aload rfl ?_
      refine r_getr (q := y + 2) hB.1 hB.2.2.2.2.2.1 ?_
      refine r_iload rfl ?_
      obtain ⟨h8, hO⟩ := hO
      refine r_ald (x := u6.2.2.1 ((y2 : Int32).toNatClampNeg)) 2 ((y2 : Int32).toNatClampNeg) (hn _ _ _ _ _ _ _) rfl hB.2.2.1 (by decide) (Or.inr rfl) h8 rfl rfl ?_
      obtain ⟨h9, hO⟩ := hO
      refine r_ast (y := mNr 22 (u6.2.2.1 ((y2 : Int32).toNatClampNeg))) (env' := [(y, u6.2.1), (y + 1, (upd f_isPicked ((y2 : Int32).toNatClampNeg) (mNr 22 (u6.2.2.1 ((y2 : Int32).toNatClampNeg))))), (y + 2, u6.2.2.1), (y + 3, u6.2.2.2), (pg, f_prg), (pg + 1, f_prg_op), (pg + 2, f_prg_number)]) 1 ((y2 : Int32).toNatClampNeg) (hn _ _ _ _ _ _ _) rfl hB.2.1 (by decide) (Or.inr rfl) h9 rfl rfl rfl ?_
      generalize hg_g10 : upd f_isPicked ((y2 : Int32).toNatClampNeg) (mNr 22 (u6.2.2.1 ((y2 : Int32).toNatClampNeg))) = g10 at hP hO ⊢
      try dsimp only at hP hO
      refine r_iinc (L' := [some (.ref y), some (.ref pg), some (.int (y2 + 1))]) rfl rfl rfl ?_
      refine r_goto ?_
      exact ih1 (y2 + 1) u6.2.1 g10 u6.2.2.1 u6.2.2.2 hO hP
def FX7_comeBack (f_this : mF) (f_isPicked : mF) (f_isSeen : mF) (f_open : mF) (f_prg : mF) (f_prg_op : mF) (f_prg_number : mF) : Int32 × mF × mF × mF × mF :=
  let u14 := FX7_comeBack_b1 10000 0 (upd f_this 0 (f_prg 1)) f_isPicked f_isSeen f_open f_prg f_prg_op f_prg_number; (0, u14.1, u14.2.1, u14.2.2.1, u14.2.2.2)
def OX7_comeBack (f_this : mF) (f_isPicked : mF) (f_isSeen : mF) (f_open : mF) (f_prg : mF) (f_prg_op : mF) (f_prg_number : mF) : Prop :=
  OX7_comeBack_b1 10000 0 (upd f_this 0 (f_prg 1)) f_isPicked f_isSeen f_open f_prg f_prg_op f_prg_number
set_option maxRecDepth 20000 in
theorem tX7_comeBack {d : Nat} {B : mB} {v : mV} {w : mX} {Q : Option Int32 → mMH → Prop} {y pg : Nat} (hB : isWays B y) (hG : isPrg B pg) (hpg : pg + 14 ≤ y) (f_this : mF) (f_isPicked : mF) (f_isSeen : mF) (f_open : mF) (f_prg : mF) (f_prg_op : mF) (f_prg_number : mF) (hO : OX7_comeBack f_this f_isPicked f_isSeen f_open f_prg f_prg_op f_prg_number) (hQ : Q (none) (mH B (mE v [(y, (FX7_comeBack f_this f_isPicked f_isSeen f_open f_prg f_prg_op f_prg_number).2.1), (y + 1, (FX7_comeBack f_this f_isPicked f_isSeen f_open f_prg f_prg_op f_prg_number).2.2.1), (y + 2, (FX7_comeBack f_this f_isPicked f_isSeen f_open f_prg f_prg_op f_prg_number).2.2.2.1), (y + 3, (FX7_comeBack f_this f_isPicked f_isSeen f_open f_prg f_prg_op f_prg_number).2.2.2.2), (pg, f_prg), (pg + 1, f_prg_op), (pg + 2, f_prg_number)]) w)) : CQ (d + 4) 109 [.ref y, .ref pg] (mH B (mE v [(y, f_this), (y + 1, f_isPicked), (y + 2, f_isSeen), (y + 3, f_open), (pg, f_prg), (pg + 1, f_prg_op), (pg + 2, f_prg_number)]) w) Q := by
  have hn : ∀ (f_this : mF) (f_isPicked : mF) (f_isSeen : mF) (f_open : mF) (f_prg : mF) (f_prg_op : mF) (f_prg_number : mF), mNd [(y, f_this), (y + 1, f_isPicked), (y + 2, f_isSeen), (y + 3, f_open), (pg, f_prg), (pg + 1, f_prg_op), (pg + 2, f_prg_number)] := fun _ _ _ _ _ _ _ => by
    show List.Nodup _
    simp only [List.map_cons, List.map_nil, List.nodup_cons, List.mem_cons, List.not_mem_nil, or_false, not_or, not_false_eq_true, List.nodup_nil, and_true]
    omega
  obtain ⟨P, hPQ, hP⟩ : ∃ P : Int32 × mF × mF × mF × mF → Prop, (∀ (q : Int32) (q0 : mF) (q1 : mF) (q2 : mF) (q3 : mF), P (q, q0, q1, q2, q3) → Q (none) (mH B (mE v [(y, q0), (y + 1, q1), (y + 2, q2), (y + 3, q3), (pg, f_prg), (pg + 1, f_prg_op), (pg + 2, f_prg_number)]) w)) ∧ P (FX7_comeBack f_this f_isPicked f_isSeen f_open f_prg f_prg_op f_prg_number) := ⟨fun res => Q (none) (mH B (mE v [(y, res.2.1), (y + 1, res.2.2.1), (y + 2, res.2.2.2.1), (y + 3, res.2.2.2.2), (pg, f_prg), (pg + 1, f_prg_op), (pg + 2, f_prg_number)]) w), fun _ _ _ _ _ h => h, hQ⟩
  refine r_begin mt_109 (by intro a ha; simp only [List.mem_cons, List.not_mem_nil, or_false] at ha; rcases ha with rfl | rfl <;> rfl) (Nat.le_of_ble_eq_true rfl) ?_
  rw [FX7_comeBack] at hP
  rw [OX7_comeBack] at hO
  show RB _ _ _ _ [some (.ref y), some (.ref pg), none] [] _ _
  refine r_aload rfl ?_
  refine r_aload rfl ?_
  refine r_get (x := f_prg 1) 4 (hn _ _ _ _ _ _ _) rfl hG.1 (by decide) rfl ?_
  refine r_put (env' := [(y, (upd f_this 0 (f_prg 1))), (y + 1, f_isPicked), (y + 2, f_isSeen), (y + 3, f_open), (pg, f_prg), (pg + 1, f_prg_op), (pg + 2, f_prg_number)]) 0 (hn _ _ _ _ _ _ _) rfl rfl hB.1 ?_
  refine r_int ?_
  refine r_istore (L' := [some (.ref y), some (.ref pg), some (.int 0)]) rfl rfl ?_
  refine r_fall ?_
  have h15 := hO
  generalize hg_u14 : FX7_comeBack_b1 10000 0 (upd f_this 0 (f_prg 1)) f_isPicked f_isSeen f_open f_prg f_prg_op f_prg_number = u14 at hP
  try dsimp only at hP
  refine tX7_comeBack_b1 hB hG hpg (u := u14) (f_prg := f_prg) (f_prg_op := f_prg_op) (f_prg_number := f_prg_number) ?_ 10000 0 (upd f_this 0 (f_prg 1)) f_isPicked f_isSeen f_open h15 hg_u14
  intro e16 he16 e17 he17 e18 he18
  exact r_retv rfl (hPQ 0 u14.1 u14.2.1 u14.2.2.1 u14.2.2.2 hP)

def FX3_isHalted (f_reg : mF) : Int32 :=
  if (f_reg 19) = 0 then (0) else (1)
set_option maxRecDepth 20000 in
theorem tX3_isHalted {d : Nat} {B : mB} {v : mV} {w : mX} {Q : Option Int32 → mMH → Prop} {b g : Nat} (hB : isMach B b g) (hd : g + 2 ≤ b) (f_reg : mF) (hQ : Q (some (FX3_isHalted f_reg)) (mH B (mE v [(b + 1, f_reg)]) w)) : CQ (d + 1) 23 [.ref b] (mH B (mE v [(b + 1, f_reg)]) w) Q := by
  have hn : ∀ (f_reg : mF), mNd [(b + 1, f_reg)] := fun _ => by
    show List.Nodup _
    simp only [List.map_cons, List.map_nil, List.nodup_cons, List.mem_cons, List.not_mem_nil, or_false, not_or, not_false_eq_true, List.nodup_nil, and_true]
  obtain ⟨P, hPQ, hP⟩ : ∃ P : Int32 → Prop, (∀ (q : Int32), P q → Q (some q) (mH B (mE v [(b + 1, f_reg)]) w)) ∧ P (FX3_isHalted f_reg) := ⟨fun res => Q (some res) (mH B (mE v [(b + 1, f_reg)]) w), fun _ h => h, hQ⟩
  refine r_begin mt_23 (by intro a ha; simp only [List.mem_cons, List.not_mem_nil, or_false] at ha; rcases ha with rfl <;> rfl) (Nat.le_of_ble_eq_true rfl) ?_
  rw [FX3_isHalted] at hP
  show RB _ _ _ _ [some (.ref b)] [] _ _
  refine r_aload rfl ?_
  refine r_getr (q := b + 1) hB.1 hB.2.2.2.2.2.2.2.2.2.2.1 ?_
  refine r_int ?_
  refine r_ald (x := f_reg 19) 0 19 (hn _) rfl hB.2.1 (by decide) rfl (lt_in 19 20 rfl rfl) (lt_cl 19 rfl) rfl ?_
  refine r_if (fun c1 : (f_reg 19) = 0 => ?_) (fun c1 : ¬ ((f_reg 19) = 0) => ?_)
  · rw [if_pos c1] at hP
    refine r_int ?_
    refine r_fall ?_
    exact r_ret rfl rfl (hPQ 0 hP)
  · rw [if_neg c1] at hP
    refine r_int ?_
    refine r_goto ?_
    exact r_ret rfl rfl (hPQ 1 hP)

def FX3_isRunning (f_reg : mF) : Int32 :=
  if (f_reg 4) = (-1) then (0) else (1)
set_option maxRecDepth 20000 in
theorem tX3_isRunning {d : Nat} {B : mB} {v : mV} {w : mX} {Q : Option Int32 → mMH → Prop} {b g : Nat} (hB : isMach B b g) (hd : g + 2 ≤ b) (f_reg : mF) (hQ : Q (some (FX3_isRunning f_reg)) (mH B (mE v [(b + 1, f_reg)]) w)) : CQ (d + 1) 25 [.ref b] (mH B (mE v [(b + 1, f_reg)]) w) Q := by
  have hn : ∀ (f_reg : mF), mNd [(b + 1, f_reg)] := fun _ => by
    show List.Nodup _
    simp only [List.map_cons, List.map_nil, List.nodup_cons, List.mem_cons, List.not_mem_nil, or_false, not_or, not_false_eq_true, List.nodup_nil, and_true]
  obtain ⟨P, hPQ, hP⟩ : ∃ P : Int32 → Prop, (∀ (q : Int32), P q → Q (some q) (mH B (mE v [(b + 1, f_reg)]) w)) ∧ P (FX3_isRunning f_reg) := ⟨fun res => Q (some res) (mH B (mE v [(b + 1, f_reg)]) w), fun _ h => h, hQ⟩
  refine r_begin mt_25 (by intro a ha; simp only [List.mem_cons, List.not_mem_nil, or_false] at ha; rcases ha with rfl <;> rfl) (Nat.le_of_ble_eq_true rfl) ?_
  rw [FX3_isRunning] at hP
  show RB _ _ _ _ [some (.ref b)] [] _ _
  refine r_aload rfl ?_
  refine r_getr (q := b + 1) hB.1 hB.2.2.2.2.2.2.2.2.2.2.1 ?_
  refine r_int ?_
  refine r_ald (x := f_reg 4) 0 4 (hn _) rfl hB.2.1 (by decide) rfl (lt_in 4 20 rfl rfl) (lt_cl 4 rfl) rfl ?_
  refine r_int ?_
  refine r_icmp (fun c1 : (f_reg 4) = (-1) => ?_) (fun c1 : ¬ ((f_reg 4) = (-1)) => ?_)
  · rw [if_pos c1] at hP
    refine r_int ?_
    refine r_fall ?_
    exact r_ret rfl rfl (hPQ 0 hP)
  · rw [if_neg c1] at hP
    refine r_int ?_
    refine r_goto ?_
    exact r_ret rfl rfl (hPQ 1 hP)

def FX3_own (f_reg : mF) : Int32 :=
  ((2 * (f_reg 4)) + (f_reg 5))
set_option maxRecDepth 20000 in
theorem tX3_own {d : Nat} {B : mB} {v : mV} {w : mX} {Q : Option Int32 → mMH → Prop} {b g : Nat} (hB : isMach B b g) (hd : g + 2 ≤ b) (f_reg : mF) (hQ : Q (some (FX3_own f_reg)) (mH B (mE v [(b + 1, f_reg)]) w)) : CQ (d + 1) 26 [.ref b] (mH B (mE v [(b + 1, f_reg)]) w) Q := by
  have hn : ∀ (f_reg : mF), mNd [(b + 1, f_reg)] := fun _ => by
    show List.Nodup _
    simp only [List.map_cons, List.map_nil, List.nodup_cons, List.mem_cons, List.not_mem_nil, or_false, not_or, not_false_eq_true, List.nodup_nil, and_true]
  obtain ⟨P, hPQ, hP⟩ : ∃ P : Int32 → Prop, (∀ (q : Int32), P q → Q (some q) (mH B (mE v [(b + 1, f_reg)]) w)) ∧ P (FX3_own f_reg) := ⟨fun res => Q (some res) (mH B (mE v [(b + 1, f_reg)]) w), fun _ h => h, hQ⟩
  refine r_begin mt_26 (by intro a ha; simp only [List.mem_cons, List.not_mem_nil, or_false] at ha; rcases ha with rfl <;> rfl) (Nat.le_of_ble_eq_true rfl) ?_
  rw [FX3_own] at hP
  show RB _ _ _ _ [some (.ref b)] [] _ _
  refine r_int ?_
  refine r_aload rfl ?_
  refine r_getr (q := b + 1) hB.1 hB.2.2.2.2.2.2.2.2.2.2.1 ?_
  refine r_int ?_
  refine r_ald (x := f_reg 4) 0 4 (hn _) rfl hB.2.1 (by decide) rfl (lt_in 4 20 rfl rfl) (lt_cl 4 rfl) rfl ?_
  refine r_imul ?_
  refine r_aload rfl ?_
  refine r_getr (q := b + 1) hB.1 hB.2.2.2.2.2.2.2.2.2.2.1 ?_
  refine r_int ?_
  refine r_ald (x := f_reg 5) 0 5 (hn _) rfl hB.2.1 (by decide) rfl (lt_in 5 20 rfl rfl) (lt_cl 5 rfl) rfl ?_
  refine r_iadd ?_
  exact r_ret rfl rfl (hPQ ((2 * (f_reg 4)) + (f_reg 5)) hP)

def FX3_clear (f_reg : mF) : Int32 × mF :=
  (0, (upd (upd (upd f_reg 0 0) 1 0) 2 0))
set_option maxRecDepth 20000 in
theorem tX3_clear {d : Nat} {B : mB} {v : mV} {w : mX} {Q : Option Int32 → mMH → Prop} {b g : Nat} (hB : isMach B b g) (hd : g + 2 ≤ b) (f_reg : mF) (hQ : Q (none) (mH B (mE v [(b + 1, (FX3_clear f_reg).2)]) w)) : CQ (d + 1) 36 [.ref b] (mH B (mE v [(b + 1, f_reg)]) w) Q := by
  have hn : ∀ (f_reg : mF), mNd [(b + 1, f_reg)] := fun _ => by
    show List.Nodup _
    simp only [List.map_cons, List.map_nil, List.nodup_cons, List.mem_cons, List.not_mem_nil, or_false, not_or, not_false_eq_true, List.nodup_nil, and_true]
  obtain ⟨P, hPQ, hP⟩ : ∃ P : Int32 × mF → Prop, (∀ (q : Int32) (q0 : mF), P (q, q0) → Q (none) (mH B (mE v [(b + 1, q0)]) w)) ∧ P (FX3_clear f_reg) := ⟨fun res => Q (none) (mH B (mE v [(b + 1, res.2)]) w), fun _ _ h => h, hQ⟩
  refine r_begin mt_36 (by intro a ha; simp only [List.mem_cons, List.not_mem_nil, or_false] at ha; rcases ha with rfl <;> rfl) (Nat.le_of_ble_eq_true rfl) ?_
  rw [FX3_clear] at hP
  show RB _ _ _ _ [some (.ref b)] [] _ _
  refine r_aload rfl ?_
  refine r_getr (q := b + 1) hB.1 hB.2.2.2.2.2.2.2.2.2.2.1 ?_
  refine r_int ?_
  refine r_int ?_
  refine r_ast (y := 0) (env' := [(b + 1, (upd f_reg 0 0))]) 0 0 (hn _) rfl hB.2.1 (by decide) rfl (lt_in 0 20 rfl rfl) (lt_cl 0 rfl) rfl rfl ?_
  refine r_aload rfl ?_
  refine r_getr (q := b + 1) hB.1 hB.2.2.2.2.2.2.2.2.2.2.1 ?_
  refine r_int ?_
  refine r_int ?_
  refine r_ast (y := 0) (env' := [(b + 1, (upd (upd f_reg 0 0) 1 0))]) 0 1 (hn _) rfl hB.2.1 (by decide) rfl (lt_in 1 20 rfl rfl) (lt_cl 1 rfl) rfl rfl ?_
  refine r_aload rfl ?_
  refine r_getr (q := b + 1) hB.1 hB.2.2.2.2.2.2.2.2.2.2.1 ?_
  refine r_int ?_
  refine r_int ?_
  refine r_ast (y := 0) (env' := [(b + 1, (upd (upd (upd f_reg 0 0) 1 0) 2 0))]) 0 2 (hn _) rfl hB.2.1 (by decide) rfl (lt_in 2 20 rfl rfl) (lt_cl 2 rfl) rfl rfl ?_
  exact r_retv rfl (hPQ 0 (upd (upd (upd f_reg 0 0) 1 0) 2 0) hP)

def FX3_pop (f_reg : mF) : Int32 × mF :=
  (0, (upd (upd f_reg 0 (f_reg 1)) 1 (f_reg 2)))
set_option maxRecDepth 20000 in
theorem tX3_pop {d : Nat} {B : mB} {v : mV} {w : mX} {Q : Option Int32 → mMH → Prop} {b g : Nat} (hB : isMach B b g) (hd : g + 2 ≤ b) (f_reg : mF) (hQ : Q (none) (mH B (mE v [(b + 1, (FX3_pop f_reg).2)]) w)) : CQ (d + 1) 38 [.ref b] (mH B (mE v [(b + 1, f_reg)]) w) Q := by
  have hn : ∀ (f_reg : mF), mNd [(b + 1, f_reg)] := fun _ => by
    show List.Nodup _
    simp only [List.map_cons, List.map_nil, List.nodup_cons, List.mem_cons, List.not_mem_nil, or_false, not_or, not_false_eq_true, List.nodup_nil, and_true]
  obtain ⟨P, hPQ, hP⟩ : ∃ P : Int32 × mF → Prop, (∀ (q : Int32) (q0 : mF), P (q, q0) → Q (none) (mH B (mE v [(b + 1, q0)]) w)) ∧ P (FX3_pop f_reg) := ⟨fun res => Q (none) (mH B (mE v [(b + 1, res.2)]) w), fun _ _ h => h, hQ⟩
  refine r_begin mt_38 (by intro a ha; simp only [List.mem_cons, List.not_mem_nil, or_false] at ha; rcases ha with rfl <;> rfl) (Nat.le_of_ble_eq_true rfl) ?_
  rw [FX3_pop] at hP
  show RB _ _ _ _ [some (.ref b)] [] _ _
  refine r_aload rfl ?_
  refine r_getr (q := b + 1) hB.1 hB.2.2.2.2.2.2.2.2.2.2.1 ?_
  refine r_int ?_
  refine r_aload rfl ?_
  refine r_getr (q := b + 1) hB.1 hB.2.2.2.2.2.2.2.2.2.2.1 ?_
  refine r_int ?_
  refine r_ald (x := f_reg 1) 0 1 (hn _) rfl hB.2.1 (by decide) rfl (lt_in 1 20 rfl rfl) (lt_cl 1 rfl) rfl ?_
  refine r_ast (y := f_reg 1) (env' := [(b + 1, (upd f_reg 0 (f_reg 1)))]) 0 0 (hn _) rfl hB.2.1 (by decide) rfl (lt_in 0 20 rfl rfl) (lt_cl 0 rfl) rfl rfl ?_
  refine r_aload rfl ?_
  refine r_getr (q := b + 1) hB.1 hB.2.2.2.2.2.2.2.2.2.2.1 ?_
  refine r_int ?_
  refine r_aload rfl ?_
  refine r_getr (q := b + 1) hB.1 hB.2.2.2.2.2.2.2.2.2.2.1 ?_
  refine r_int ?_
  refine r_ald (x := f_reg 2) 0 2 (hn _) rfl hB.2.1 (by decide) rfl (lt_in 2 20 rfl rfl) (lt_cl 2 rfl) (pk_un (nebq rfl)) ?_
  refine r_ast (y := f_reg 2) (env' := [(b + 1, (upd (upd f_reg 0 (f_reg 1)) 1 (f_reg 2)))]) 0 1 (hn _) rfl hB.2.1 (by decide) rfl (lt_in 1 20 rfl rfl) (lt_cl 1 rfl) rfl rfl ?_
  exact r_retv rfl (hPQ 0 (upd (upd f_reg 0 (f_reg 1)) 1 (f_reg 2)) hP)

def FX3_goOff (f_reg : mF) (f_memory : mF) : Int32 × mF × mF :=
  let g2 := upd f_memory (((f_reg 4) - 1 : Int32).toNatClampNeg) (f_reg 3); (0, (upd f_reg 4 (-1)), g2)
def OX3_goOff (f_reg : mF) (f_memory : mF) : Prop :=
  vp_in ((f_reg 4) - 1) 96
set_option maxRecDepth 20000 in
theorem tX3_goOff {d : Nat} {B : mB} {v : mV} {w : mX} {Q : Option Int32 → mMH → Prop} {b g : Nat} (hB : isMach B b g) (hd : g + 2 ≤ b) (f_reg : mF) (f_memory : mF) (hO : OX3_goOff f_reg f_memory) (hQ : Q (none) (mH B (mE v [(b + 1, (FX3_goOff f_reg f_memory).2.1), (b + 3, (FX3_goOff f_reg f_memory).2.2)]) w)) : CQ (d + 1) 35 [.ref b] (mH B (mE v [(b + 1, f_reg), (b + 3, f_memory)]) w) Q := by
  have hn : ∀ (f_reg : mF) (f_memory : mF), mNd [(b + 1, f_reg), (b + 3, f_memory)] := fun _ _ => by
    show List.Nodup _
    simp only [List.map_cons, List.map_nil, List.nodup_cons, List.mem_cons, List.not_mem_nil, or_false, not_or, not_false_eq_true, List.nodup_nil, and_true]
    omega
  obtain ⟨P, hPQ, hP⟩ : ∃ P : Int32 × mF × mF → Prop, (∀ (q : Int32) (q0 : mF) (q1 : mF), P (q, q0, q1) → Q (none) (mH B (mE v [(b + 1, q0), (b + 3, q1)]) w)) ∧ P (FX3_goOff f_reg f_memory) := ⟨fun res => Q (none) (mH B (mE v [(b + 1, res.2.1), (b + 3, res.2.2)]) w), fun _ _ _ h => h, hQ⟩
  refine r_begin mt_35 (by intro a ha; simp only [List.mem_cons, List.not_mem_nil, or_false] at ha; rcases ha with rfl <;> rfl) (Nat.le_of_ble_eq_true rfl) ?_
  rw [FX3_goOff] at hP
  rw [OX3_goOff] at hO
  show RB _ _ _ _ [some (.ref b)] [] _ _
  refine r_aload rfl ?_
  refine r_getr (q := b + 3) hB.1 hB.2.2.2.2.2.2.2.2.2.2.2.2.1 ?_
  refine r_aload rfl ?_
  refine r_getr (q := b + 1) hB.1 hB.2.2.2.2.2.2.2.2.2.2.1 ?_
  refine r_int ?_
  refine r_ald (x := f_reg 4) 0 4 (hn _ _) rfl hB.2.1 (by decide) rfl (lt_in 4 20 rfl rfl) (lt_cl 4 rfl) rfl ?_
  refine r_int ?_
  refine r_isub ?_
  refine r_aload rfl ?_
  refine r_getr (q := b + 1) hB.1 hB.2.2.2.2.2.2.2.2.2.2.1 ?_
  refine r_int ?_
  refine r_ald (x := f_reg 3) 0 3 (hn _ _) rfl hB.2.1 (by decide) rfl (lt_in 3 20 rfl rfl) (lt_cl 3 rfl) rfl ?_
  have h1 := hO
  refine r_ast (y := f_reg 3) (env' := [(b + 1, f_reg), (b + 3, (upd f_memory (((f_reg 4) - 1 : Int32).toNatClampNeg) (f_reg 3)))]) 1 (((f_reg 4) - 1 : Int32).toNatClampNeg) (hn _ _) rfl hB.2.2.2.1 (by decide) rfl h1 rfl rfl rfl ?_
  generalize hg_g2 : upd f_memory (((f_reg 4) - 1 : Int32).toNatClampNeg) (f_reg 3) = g2 at hP ⊢
  try dsimp only at hP
  refine r_aload rfl ?_
  refine r_getr (q := b + 1) hB.1 hB.2.2.2.2.2.2.2.2.2.2.1 ?_
  refine r_int ?_
  refine r_int ?_
  refine r_ast (y := (-1)) (env' := [(b + 1, (upd f_reg 4 (-1))), (b + 3, g2)]) 0 4 (hn _ _) rfl hB.2.1 (by decide) rfl (lt_in 4 20 rfl rfl) (lt_cl 4 rfl) rfl rfl ?_
  exact r_retv rfl (hPQ 0 (upd f_reg 4 (-1)) g2 hP)

def FX3_push (x1 : Int32) (f_reg : mF) : Int32 × mF :=
  (0, (upd (upd (upd f_reg 2 (f_reg 1)) 1 (f_reg 0)) 0 x1))
set_option maxRecDepth 20000 in
theorem tX3_push {d : Nat} {B : mB} {v : mV} {w : mX} {Q : Option Int32 → mMH → Prop} {b g : Nat} (hB : isMach B b g) (hd : g + 2 ≤ b) (x1 : Int32) (f_reg : mF) (hQ : Q (none) (mH B (mE v [(b + 1, (FX3_push x1 f_reg).2)]) w)) : CQ (d + 1) 37 [.ref b, .int x1] (mH B (mE v [(b + 1, f_reg)]) w) Q := by
  have hn : ∀ (f_reg : mF), mNd [(b + 1, f_reg)] := fun _ => by
    show List.Nodup _
    simp only [List.map_cons, List.map_nil, List.nodup_cons, List.mem_cons, List.not_mem_nil, or_false, not_or, not_false_eq_true, List.nodup_nil, and_true]
  obtain ⟨P, hPQ, hP⟩ : ∃ P : Int32 × mF → Prop, (∀ (q : Int32) (q0 : mF), P (q, q0) → Q (none) (mH B (mE v [(b + 1, q0)]) w)) ∧ P (FX3_push x1 f_reg) := ⟨fun res => Q (none) (mH B (mE v [(b + 1, res.2)]) w), fun _ _ h => h, hQ⟩
  refine r_begin mt_37 (by intro a ha; simp only [List.mem_cons, List.not_mem_nil, or_false] at ha; rcases ha with rfl | rfl <;> rfl) (Nat.le_of_ble_eq_true rfl) ?_
  rw [FX3_push] at hP
  show RB _ _ _ _ [some (.ref b), some (.int x1)] [] _ _
  refine r_aload rfl ?_
  refine r_getr (q := b + 1) hB.1 hB.2.2.2.2.2.2.2.2.2.2.1 ?_
  refine r_int ?_
  refine r_aload rfl ?_
  refine r_getr (q := b + 1) hB.1 hB.2.2.2.2.2.2.2.2.2.2.1 ?_
  refine r_int ?_
  refine r_ald (x := f_reg 1) 0 1 (hn _) rfl hB.2.1 (by decide) rfl (lt_in 1 20 rfl rfl) (lt_cl 1 rfl) rfl ?_
  refine r_ast (y := f_reg 1) (env' := [(b + 1, (upd f_reg 2 (f_reg 1)))]) 0 2 (hn _) rfl hB.2.1 (by decide) rfl (lt_in 2 20 rfl rfl) (lt_cl 2 rfl) rfl rfl ?_
  refine r_aload rfl ?_
  refine r_getr (q := b + 1) hB.1 hB.2.2.2.2.2.2.2.2.2.2.1 ?_
  refine r_int ?_
  refine r_aload rfl ?_
  refine r_getr (q := b + 1) hB.1 hB.2.2.2.2.2.2.2.2.2.2.1 ?_
  refine r_int ?_
  refine r_ald (x := f_reg 0) 0 0 (hn _) rfl hB.2.1 (by decide) rfl (lt_in 0 20 rfl rfl) (lt_cl 0 rfl) (pk_un (nebq rfl)) ?_
  refine r_ast (y := f_reg 0) (env' := [(b + 1, (upd (upd f_reg 2 (f_reg 1)) 1 (f_reg 0)))]) 0 1 (hn _) rfl hB.2.1 (by decide) rfl (lt_in 1 20 rfl rfl) (lt_cl 1 rfl) rfl rfl ?_
  refine r_aload rfl ?_
  refine r_getr (q := b + 1) hB.1 hB.2.2.2.2.2.2.2.2.2.2.1 ?_
  refine r_int ?_
  refine r_iload rfl ?_
  refine r_ast (y := x1) (env' := [(b + 1, (upd (upd (upd f_reg 2 (f_reg 1)) 1 (f_reg 0)) 0 x1))]) 0 0 (hn _) rfl hB.2.1 (by decide) rfl (lt_in 0 20 rfl rfl) (lt_cl 0 rfl) rfl rfl ?_
  exact r_retv rfl (hPQ 0 (upd (upd (upd f_reg 2 (f_reg 1)) 1 (f_reg 0)) 0 x1) hP)

def FX3_schedule (x1 : Int32) (f_reg : mF) (f_memory : mF) : Int32 × mF × mF :=
  if (f_reg ((14 + (x1 &&& 1) : Int32).toNatClampNeg)) = (-1) then (let g5 := upd f_reg ((14 + (x1 &&& 1) : Int32).toNatClampNeg) x1; let g7 := upd g5 ((16 + (x1 &&& 1) : Int32).toNatClampNeg) x1; (0, g7, f_memory)) else (let u8 := FX9_isProcess (f_reg ((16 + (x1 &&& 1) : Int32).toNatClampNeg)); if u8 = 0 then (let g11 := upd f_reg ((16 + (x1 &&& 1) : Int32).toNatClampNeg) x1; (0, g11, f_memory)) else (let g13 := upd f_memory ((((f_reg ((16 + (x1 &&& 1) : Int32).toNatClampNeg)) / 2) - 2 : Int32).toNatClampNeg) x1; let g15 := upd f_reg ((16 + (x1 &&& 1) : Int32).toNatClampNeg) x1; (0, g15, g13)))
def OX3_schedule (x1 : Int32) (f_reg : mF) (f_memory : mF) : Prop :=
  vp_in (16 + (x1 &&& 1)) 20 ∧ (vp_in (14 + (x1 &&& 1)) 20 ∧ (((f_reg ((14 + (x1 &&& 1) : Int32).toNatClampNeg)) = (-1) → (vp_in (14 + (x1 &&& 1)) 20 ∧ (let g5 := upd f_reg ((14 + (x1 &&& 1) : Int32).toNatClampNeg) x1; vp_in (16 + (x1 &&& 1)) 20))) ∧ (¬ ((f_reg ((14 + (x1 &&& 1) : Int32).toNatClampNeg)) = (-1)) → ((let u8 := FX9_isProcess (f_reg ((16 + (x1 &&& 1) : Int32).toNatClampNeg)); (u8 = 0 → (vp_in (16 + (x1 &&& 1)) 20)) ∧ (¬ (u8 = 0) → (vp_in (((f_reg ((16 + (x1 &&& 1) : Int32).toNatClampNeg)) / 2) - 2) 96 ∧ (let g13 := upd f_memory ((((f_reg ((16 + (x1 &&& 1) : Int32).toNatClampNeg)) / 2) - 2 : Int32).toNatClampNeg) x1; vp_in (16 + (x1 &&& 1)) 20))))))))
set_option maxRecDepth 20000 in
theorem tX3_schedule {d : Nat} {B : mB} {v : mV} {w : mX} {Q : Option Int32 → mMH → Prop} {b g : Nat} (hB : isMach B b g) (hd : g + 2 ≤ b) (x1 : Int32) (f_reg : mF) (f_memory : mF) (hO : OX3_schedule x1 f_reg f_memory) (hQ : Q (none) (mH B (mE v [(b + 1, (FX3_schedule x1 f_reg f_memory).2.1), (b + 3, (FX3_schedule x1 f_reg f_memory).2.2)]) w)) : CQ (d + 2) 34 [.ref b, .int x1] (mH B (mE v [(b + 1, f_reg), (b + 3, f_memory)]) w) Q := by
  have hn : ∀ (f_reg : mF) (f_memory : mF), mNd [(b + 1, f_reg), (b + 3, f_memory)] := fun _ _ => by
    show List.Nodup _
    simp only [List.map_cons, List.map_nil, List.nodup_cons, List.mem_cons, List.not_mem_nil, or_false, not_or, not_false_eq_true, List.nodup_nil, and_true]
    omega
  obtain ⟨P, hPQ, hP⟩ : ∃ P : Int32 × mF × mF → Prop, (∀ (q : Int32) (q0 : mF) (q1 : mF), P (q, q0, q1) → Q (none) (mH B (mE v [(b + 1, q0), (b + 3, q1)]) w)) ∧ P (FX3_schedule x1 f_reg f_memory) := ⟨fun res => Q (none) (mH B (mE v [(b + 1, res.2.1), (b + 3, res.2.2)]) w), fun _ _ _ h => h, hQ⟩
  refine r_begin mt_34 (by intro a ha; simp only [List.mem_cons, List.not_mem_nil, or_false] at ha; rcases ha with rfl | rfl <;> rfl) (Nat.le_of_ble_eq_true rfl) ?_
  rw [FX3_schedule] at hP
  rw [OX3_schedule] at hO
  show RB _ _ _ _ [some (.ref b), some (.int x1), none, none] [] _ _
  refine r_iload rfl ?_
  refine r_int ?_
  refine r_iand ?_
  refine r_istore (L' := [some (.ref b), some (.int x1), some (.int (x1 &&& 1)), none]) rfl rfl ?_
  refine r_aload rfl ?_
  refine r_getr (q := b + 1) hB.1 hB.2.2.2.2.2.2.2.2.2.2.1 ?_
  refine r_int ?_
  refine r_iload rfl ?_
  refine r_iadd ?_
  obtain ⟨h1, hO⟩ := hO
  refine r_ald (x := f_reg ((16 + (x1 &&& 1) : Int32).toNatClampNeg)) 0 ((16 + (x1 &&& 1) : Int32).toNatClampNeg) (hn _ _) rfl hB.2.1 (by decide) rfl h1 rfl rfl ?_
  refine r_istore (L' := [some (.ref b), some (.int x1), some (.int (x1 &&& 1)), some (.int (f_reg ((16 + (x1 &&& 1) : Int32).toNatClampNeg)))]) rfl rfl ?_
  refine r_aload rfl ?_
  refine r_getr (q := b + 1) hB.1 hB.2.2.2.2.2.2.2.2.2.2.1 ?_
  refine r_int ?_
  refine r_iload rfl ?_
  refine r_iadd ?_
  obtain ⟨h2, hO⟩ := hO
  refine r_ald (x := f_reg ((14 + (x1 &&& 1) : Int32).toNatClampNeg)) 0 ((14 + (x1 &&& 1) : Int32).toNatClampNeg) (hn _ _) rfl hB.2.1 (by decide) rfl h2 rfl rfl ?_
  refine r_int ?_
  refine r_icmp1 (fun c3 : (f_reg ((14 + (x1 &&& 1) : Int32).toNatClampNeg)) = (-1) => ?_) (fun c3 : ¬ ((f_reg ((14 + (x1 &&& 1) : Int32).toNatClampNeg)) = (-1)) => ?_)
  · rw [if_pos c3] at hP
    have hO := hO.1 c3
    refine r_aload rfl ?_
    refine r_getr (q := b + 1) hB.1 hB.2.2.2.2.2.2.2.2.2.2.1 ?_
    refine r_int ?_
    refine r_iload rfl ?_
    refine r_iadd ?_
    refine r_iload rfl ?_
    obtain ⟨h4, hO⟩ := hO
    refine r_ast (y := x1) (env' := [(b + 1, (upd f_reg ((14 + (x1 &&& 1) : Int32).toNatClampNeg) x1)), (b + 3, f_memory)]) 0 ((14 + (x1 &&& 1) : Int32).toNatClampNeg) (hn _ _) rfl hB.2.1 (by decide) rfl h4 rfl rfl rfl ?_
    generalize hg_g5 : upd f_reg ((14 + (x1 &&& 1) : Int32).toNatClampNeg) x1 = g5 at hP hO ⊢
    try dsimp only at hP hO
    refine r_goto ?_
    refine r_aload rfl ?_
    refine r_getr (q := b + 1) hB.1 hB.2.2.2.2.2.2.2.2.2.2.1 ?_
    refine r_int ?_
    refine r_iload rfl ?_
    refine r_iadd ?_
    refine r_iload rfl ?_
    have h6 := hO
    refine r_ast (y := x1) (env' := [(b + 1, (upd g5 ((16 + (x1 &&& 1) : Int32).toNatClampNeg) x1)), (b + 3, f_memory)]) 0 ((16 + (x1 &&& 1) : Int32).toNatClampNeg) (hn _ _) rfl hB.2.1 (by decide) rfl h6 rfl rfl rfl ?_
    generalize hg_g7 : upd g5 ((16 + (x1 &&& 1) : Int32).toNatClampNeg) x1 = g7 at hP ⊢
    try dsimp only at hP
    exact r_retv rfl (hPQ 0 g7 f_memory hP)
  · rw [if_neg c3] at hP
    have hO := hO.2 c3
    refine r_iload rfl ?_
    have k16 := fun (Q' : Option Int32 → mMH → Prop) hq => tX9_isProcess (d := d + 0) (B := B) (v := mE v [(b + 1, f_reg), (b + 3, f_memory)]) (w := w) (Q := Q') (f_reg ((16 + (x1 &&& 1) : Int32).toNatClampNeg)) hq
    generalize hg_u8 : FX9_isProcess (f_reg ((16 + (x1 &&& 1) : Int32).toNatClampNeg)) = u8 at k16 hP hO
    try dsimp only at hP hO
    refine r_callS (st := []) (as := [.int (f_reg ((16 + (x1 &&& 1) : Int32).toNatClampNeg))]) (envc := []) (envc' := []) (env' := [(b + 1, f_reg), (b + 3, f_memory)]) (rv := some u8) [] (Or.inr rfl) (hn _ _) rfl rfl (Nat.le_of_ble_eq_true rfl) rfl rfl rfl k16 ?_
    show RB _ _ _ _ _ [.int u8] _ _
    refine r_if (fun c9 : u8 = 0 => ?_) (fun c9 : ¬ (u8 = 0) => ?_)
    · rw [if_pos c9] at hP
      have hO := hO.1 c9
      refine r_aload rfl ?_
      refine r_getr (q := b + 1) hB.1 hB.2.2.2.2.2.2.2.2.2.2.1 ?_
      refine r_int ?_
      refine r_iload rfl ?_
      refine r_iadd ?_
      refine r_iload rfl ?_
      have h10 := hO
      refine r_ast (y := x1) (env' := [(b + 1, (upd f_reg ((16 + (x1 &&& 1) : Int32).toNatClampNeg) x1)), (b + 3, f_memory)]) 0 ((16 + (x1 &&& 1) : Int32).toNatClampNeg) (hn _ _) rfl hB.2.1 (by decide) rfl h10 rfl rfl rfl ?_
      generalize hg_g11 : upd f_reg ((16 + (x1 &&& 1) : Int32).toNatClampNeg) x1 = g11 at hP ⊢
      try dsimp only at hP
      exact r_retv rfl (hPQ 0 g11 f_memory hP)
    · rw [if_neg c9] at hP
      have hO := hO.2 c9
      refine r_aload rfl ?_
      refine r_getr (q := b + 3) hB.1 hB.2.2.2.2.2.2.2.2.2.2.2.2.1 ?_
      refine r_iload rfl ?_
      refine r_int ?_
      refine r_idiv (by decide) ?_
      refine r_int ?_
      refine r_isub ?_
      refine r_iload rfl ?_
      obtain ⟨h12, hO⟩ := hO
      refine r_ast (y := x1) (env' := [(b + 1, f_reg), (b + 3, (upd f_memory ((((f_reg ((16 + (x1 &&& 1) : Int32).toNatClampNeg)) / 2) - 2 : Int32).toNatClampNeg) x1))]) 1 ((((f_reg ((16 + (x1 &&& 1) : Int32).toNatClampNeg)) / 2) - 2 : Int32).toNatClampNeg) (hn _ _) rfl hB.2.2.2.1 (by decide) rfl h12 rfl rfl rfl ?_
      generalize hg_g13 : upd f_memory ((((f_reg ((16 + (x1 &&& 1) : Int32).toNatClampNeg)) / 2) - 2 : Int32).toNatClampNeg) x1 = g13 at hP hO ⊢
      try dsimp only at hP hO
      refine r_fall ?_
      refine r_aload rfl ?_
      refine r_getr (q := b + 1) hB.1 hB.2.2.2.2.2.2.2.2.2.2.1 ?_
      refine r_int ?_
      refine r_iload rfl ?_
      refine r_iadd ?_
      refine r_iload rfl ?_
      have h14 := hO
      refine r_ast (y := x1) (env' := [(b + 1, (upd f_reg ((16 + (x1 &&& 1) : Int32).toNatClampNeg) x1)), (b + 3, g13)]) 0 ((16 + (x1 &&& 1) : Int32).toNatClampNeg) (hn _ _) rfl hB.2.1 (by decide) rfl h14 rfl rfl rfl ?_
      generalize hg_g15 : upd f_reg ((16 + (x1 &&& 1) : Int32).toNatClampNeg) x1 = g15 at hP ⊢
      try dsimp only at hP
      exact r_retv rfl (hPQ 0 g15 g13 hP)

def FX3_jump (x1 : Int32) (x2 : Int32) (f_reg : mF) (f_memory : mF) : Int32 × mF × mF :=
  if (f_reg 5) = 1 then (if (f_reg 6) < x2 then ((0, (upd f_reg 3 x1), f_memory)) else (let u3 := FX3_own (upd f_reg 3 x1); let u4 := FX3_goOff (upd f_reg 3 x1) f_memory; let u6 := FX3_schedule u3 u4.2.1 u4.2.2; (0, u6.2.1, u6.2.2))) else ((0, (upd f_reg 3 x1), f_memory))
def OX3_jump (x1 : Int32) (x2 : Int32) (f_reg : mF) (f_memory : mF) : Prop :=
  ((f_reg 5) = 1 → (((f_reg 6) < x2 → True) ∧ (¬ ((f_reg 6) < x2) → ((let u3 := FX3_own (upd f_reg 3 x1); OX3_goOff (upd f_reg 3 x1) f_memory ∧ (let u4 := FX3_goOff (upd f_reg 3 x1) f_memory; OX3_schedule u3 u4.2.1 u4.2.2)))))) ∧ (¬ ((f_reg 5) = 1) → True)
set_option maxRecDepth 20000 in
theorem tX3_jump {d : Nat} {B : mB} {v : mV} {w : mX} {Q : Option Int32 → mMH → Prop} {b g : Nat} (hB : isMach B b g) (hd : g + 2 ≤ b) (x1 : Int32) (x2 : Int32) (f_reg : mF) (f_memory : mF) (hO : OX3_jump x1 x2 f_reg f_memory) (hQ : Q (none) (mH B (mE v [(b + 1, (FX3_jump x1 x2 f_reg f_memory).2.1), (b + 3, (FX3_jump x1 x2 f_reg f_memory).2.2)]) w)) : CQ (d + 3) 43 [.ref b, .int x1, .int x2] (mH B (mE v [(b + 1, f_reg), (b + 3, f_memory)]) w) Q := by
  have hn : ∀ (f_reg : mF) (f_memory : mF), mNd [(b + 1, f_reg), (b + 3, f_memory)] := fun _ _ => by
    show List.Nodup _
    simp only [List.map_cons, List.map_nil, List.nodup_cons, List.mem_cons, List.not_mem_nil, or_false, not_or, not_false_eq_true, List.nodup_nil, and_true]
    omega
  obtain ⟨P, hPQ, hP⟩ : ∃ P : Int32 × mF × mF → Prop, (∀ (q : Int32) (q0 : mF) (q1 : mF), P (q, q0, q1) → Q (none) (mH B (mE v [(b + 1, q0), (b + 3, q1)]) w)) ∧ P (FX3_jump x1 x2 f_reg f_memory) := ⟨fun res => Q (none) (mH B (mE v [(b + 1, res.2.1), (b + 3, res.2.2)]) w), fun _ _ _ h => h, hQ⟩
  refine r_begin mt_43 (by intro a ha; simp only [List.mem_cons, List.not_mem_nil, or_false] at ha; rcases ha with rfl | rfl | rfl <;> rfl) (Nat.le_of_ble_eq_true rfl) ?_
  rw [FX3_jump] at hP
  rw [OX3_jump] at hO
  show RB _ _ _ _ [some (.ref b), some (.int x1), some (.int x2), none] [] _ _
  refine r_aload rfl ?_
  refine r_getr (q := b + 1) hB.1 hB.2.2.2.2.2.2.2.2.2.2.1 ?_
  refine r_int ?_
  refine r_iload rfl ?_
  refine r_ast (y := x1) (env' := [(b + 1, (upd f_reg 3 x1)), (b + 3, f_memory)]) 0 3 (hn _ _) rfl hB.2.1 (by decide) rfl (lt_in 3 20 rfl rfl) (lt_cl 3 rfl) rfl rfl ?_
  refine r_aload rfl ?_
  refine r_getr (q := b + 1) hB.1 hB.2.2.2.2.2.2.2.2.2.2.1 ?_
  refine r_int ?_
  refine r_ald (x := f_reg 5) 0 5 (hn _ _) rfl hB.2.1 (by decide) rfl (lt_in 5 20 rfl rfl) (lt_cl 5 rfl) (pk_un (nebq rfl)) ?_
  refine r_int ?_
  refine r_icmp1 (fun c1 : (f_reg 5) = 1 => ?_) (fun c1 : ¬ ((f_reg 5) = 1) => ?_)
  · rw [if_pos c1] at hP
    have hO := hO.1 c1
    refine r_aload rfl ?_
    refine r_getr (q := b + 1) hB.1 hB.2.2.2.2.2.2.2.2.2.2.1 ?_
    refine r_int ?_
    refine r_ald (x := f_reg 6) 0 6 (hn _ _) rfl hB.2.1 (by decide) rfl (lt_in 6 20 rfl rfl) (lt_cl 6 rfl) (pk_un (nebq rfl)) ?_
    refine r_iload rfl ?_
    refine r_icmp (fun c2 : (f_reg 6) < x2 => ?_) (fun c2 : ¬ ((f_reg 6) < x2) => ?_)
    · rw [if_pos c2] at hP
      have hO := hO.1 c2
      exact r_retv rfl (hPQ 0 (upd f_reg 3 x1) f_memory hP)
    · rw [if_neg c2] at hP
      have hO := hO.2 c2
      refine r_aload rfl ?_
      have k10 := fun (Q' : Option Int32 → mMH → Prop) hq => tX3_own (d := d + 1) (B := B) (v := mE v [(b + 1, (upd f_reg 3 x1)), (b + 3, f_memory)]) (w := w) (Q := Q') hB (by omega) (upd f_reg 3 x1) hq
      generalize hg_u3 : FX3_own (upd f_reg 3 x1) = u3 at k10 hP hO
      try dsimp only at hP hO
      refine r_callV (st := []) (o := b) (as := []) (envc := [(b + 1, (upd f_reg 3 x1))]) (envc' := [(b + 1, (upd f_reg 3 x1))]) (env' := [(b + 1, (upd f_reg 3 x1)), (b + 3, f_memory)]) (rv := some u3) [0] (hn _ _) rfl rfl (Nat.le_of_ble_eq_true rfl) hB.1 rfl rfl rfl k10 ?_
      show RB _ _ _ _ _ [.int u3] _ _
      refine r_istore (L' := [some (.ref b), some (.int x1), some (.int x2), some (.int u3)]) rfl rfl ?_
      refine r_aload rfl ?_
      obtain ⟨h5, hO⟩ := hO
      have k9 := fun (Q' : Option Int32 → mMH → Prop) hq => tX3_goOff (d := d + 1) (B := B) (v := mE v [(b + 1, (upd f_reg 3 x1)), (b + 3, f_memory)]) (w := w) (Q := Q') hB (by omega) (upd f_reg 3 x1) f_memory h5 hq
      generalize hg_u4 : FX3_goOff (upd f_reg 3 x1) f_memory = u4 at k9 hP hO
      try dsimp only at hP hO
      refine r_callV (st := []) (o := b) (as := []) (envc := [(b + 1, (upd f_reg 3 x1)), (b + 3, f_memory)]) (envc' := [(b + 1, u4.2.1), (b + 3, u4.2.2)]) (env' := [(b + 1, u4.2.1), (b + 3, u4.2.2)]) (rv := none) [0, 1] (hn _ _) rfl rfl (Nat.le_of_ble_eq_true rfl) hB.1 rfl rfl rfl k9 ?_
      show RB _ _ _ _ _ [] _ _
      refine r_aload rfl ?_
      refine r_iload rfl ?_
      have h7 := hO
      have k8 := fun (Q' : Option Int32 → mMH → Prop) hq => tX3_schedule (d := d + 0) (B := B) (v := mE v [(b + 1, u4.2.1), (b + 3, u4.2.2)]) (w := w) (Q := Q') hB (by omega) u3 u4.2.1 u4.2.2 h7 hq
      generalize hg_u6 : FX3_schedule u3 u4.2.1 u4.2.2 = u6 at k8 hP
      try dsimp only at hP
      refine r_callV (st := []) (o := b) (as := [.int u3]) (envc := [(b + 1, u4.2.1), (b + 3, u4.2.2)]) (envc' := [(b + 1, u6.2.1), (b + 3, u6.2.2)]) (env' := [(b + 1, u6.2.1), (b + 3, u6.2.2)]) (rv := none) [0, 1] (hn _ _) rfl rfl (Nat.le_of_ble_eq_true rfl) hB.1 rfl rfl rfl k8 ?_
      show RB _ _ _ _ _ [] _ _
      refine r_fall ?_
      exact r_retv rfl (hPQ 0 u6.2.1 u6.2.2 hP)
  · rw [if_neg c1] at hP
    have hO := hO.2 c1
    exact r_retv rfl (hPQ 0 (upd f_reg 3 x1) f_memory hP)

def FX3_isAtRest (f_reg : mF) (f_timers : mF) : Int32 :=
  let u1 := FX3_isHalted f_reg; if u1 = 0 then (let u3 := FX3_isRunning f_reg; if u3 = 0 then (if (f_reg 11) = (-1) then (if (f_reg 14) = (-1) then (if (f_reg 15) = (-1) then (if (f_timers 0) = 0 then (1) else (0)) else (0)) else (0)) else (0)) else (0)) else (1)
set_option maxRecDepth 20000 in
theorem tX3_isAtRest {d : Nat} {B : mB} {v : mV} {w : mX} {Q : Option Int32 → mMH → Prop} {b g : Nat} (hB : isMach B b g) (hd : g + 2 ≤ b) (f_reg : mF) (f_timers : mF) (hQ : Q (some (FX3_isAtRest f_reg f_timers)) (mH B (mE v [(b + 1, f_reg), (b + 4, f_timers)]) w)) : CQ (d + 2) 24 [.ref b] (mH B (mE v [(b + 1, f_reg), (b + 4, f_timers)]) w) Q := by
  have hn : ∀ (f_reg : mF) (f_timers : mF), mNd [(b + 1, f_reg), (b + 4, f_timers)] := fun _ _ => by
    show List.Nodup _
    simp only [List.map_cons, List.map_nil, List.nodup_cons, List.mem_cons, List.not_mem_nil, or_false, not_or, not_false_eq_true, List.nodup_nil, and_true]
    omega
  obtain ⟨P, hPQ, hP⟩ : ∃ P : Int32 → Prop, (∀ (q : Int32), P q → Q (some q) (mH B (mE v [(b + 1, f_reg), (b + 4, f_timers)]) w)) ∧ P (FX3_isAtRest f_reg f_timers) := ⟨fun res => Q (some res) (mH B (mE v [(b + 1, f_reg), (b + 4, f_timers)]) w), fun _ h => h, hQ⟩
  refine r_begin mt_24 (by intro a ha; simp only [List.mem_cons, List.not_mem_nil, or_false] at ha; rcases ha with rfl <;> rfl) (Nat.le_of_ble_eq_true rfl) ?_
  rw [FX3_isAtRest] at hP
  show RB _ _ _ _ [some (.ref b)] [] _ _
  refine r_aload rfl ?_
  have k10 := fun (Q' : Option Int32 → mMH → Prop) hq => tX3_isHalted (d := d + 0) (B := B) (v := mE v [(b + 1, f_reg), (b + 4, f_timers)]) (w := w) (Q := Q') hB (by omega) f_reg hq
  generalize hg_u1 : FX3_isHalted f_reg = u1 at k10 hP
  try dsimp only at hP
  refine r_callV (st := []) (o := b) (as := []) (envc := [(b + 1, f_reg)]) (envc' := [(b + 1, f_reg)]) (env' := [(b + 1, f_reg), (b + 4, f_timers)]) (rv := some u1) [0] (hn _ _) rfl rfl (Nat.le_of_ble_eq_true rfl) hB.1 rfl rfl rfl k10 ?_
  show RB _ _ _ _ _ [.int u1] _ _
  refine r_if1 (fun c2 : u1 = 0 => ?_) (fun c2 : ¬ (u1 = 0) => ?_)
  · rw [if_pos c2] at hP
    refine r_aload rfl ?_
    have k9 := fun (Q' : Option Int32 → mMH → Prop) hq => tX3_isRunning (d := d + 0) (B := B) (v := mE v [(b + 1, f_reg), (b + 4, f_timers)]) (w := w) (Q := Q') hB (by omega) f_reg hq
    generalize hg_u3 : FX3_isRunning f_reg = u3 at k9 hP
    try dsimp only at hP
    refine r_callV (st := []) (o := b) (as := []) (envc := [(b + 1, f_reg)]) (envc' := [(b + 1, f_reg)]) (env' := [(b + 1, f_reg), (b + 4, f_timers)]) (rv := some u3) [0] (hn _ _) rfl rfl (Nat.le_of_ble_eq_true rfl) hB.1 rfl rfl rfl k9 ?_
    show RB _ _ _ _ _ [.int u3] _ _
    refine r_if1 (fun c4 : u3 = 0 => ?_) (fun c4 : ¬ (u3 = 0) => ?_)
    · rw [if_pos c4] at hP
      refine r_aload rfl ?_
      refine r_getr (q := b + 1) hB.1 hB.2.2.2.2.2.2.2.2.2.2.1 ?_
      refine r_int ?_
      refine r_ald (x := f_reg 11) 0 11 (hn _ _) rfl hB.2.1 (by decide) rfl (lt_in 11 20 rfl rfl) (lt_cl 11 rfl) rfl ?_
      refine r_int ?_
      refine r_icmp1 (fun c5 : (f_reg 11) = (-1) => ?_) (fun c5 : ¬ ((f_reg 11) = (-1)) => ?_)
      · rw [if_pos c5] at hP
        refine r_aload rfl ?_
        refine r_getr (q := b + 1) hB.1 hB.2.2.2.2.2.2.2.2.2.2.1 ?_
        refine r_int ?_
        refine r_ald (x := f_reg 14) 0 14 (hn _ _) rfl hB.2.1 (by decide) rfl (lt_in 14 20 rfl rfl) (lt_cl 14 rfl) rfl ?_
        refine r_int ?_
        refine r_icmp1 (fun c6 : (f_reg 14) = (-1) => ?_) (fun c6 : ¬ ((f_reg 14) = (-1)) => ?_)
        · rw [if_pos c6] at hP
          refine r_aload rfl ?_
          refine r_getr (q := b + 1) hB.1 hB.2.2.2.2.2.2.2.2.2.2.1 ?_
          refine r_int ?_
          refine r_ald (x := f_reg 15) 0 15 (hn _ _) rfl hB.2.1 (by decide) rfl (lt_in 15 20 rfl rfl) (lt_cl 15 rfl) rfl ?_
          refine r_int ?_
          refine r_icmp1 (fun c7 : (f_reg 15) = (-1) => ?_) (fun c7 : ¬ ((f_reg 15) = (-1)) => ?_)
          · rw [if_pos c7] at hP
            refine r_aload rfl ?_
            refine r_getr (q := b + 4) hB.1 hB.2.2.2.2.2.2.2.2.2.2.2.2.2.1 ?_
            refine r_get (x := f_timers 0) 1 (hn _ _) rfl hB.2.2.2.2.2.1.1 (by decide) rfl ?_
            refine r_if1 (fun c8 : (f_timers 0) = 0 => ?_) (fun c8 : ¬ ((f_timers 0) = 0) => ?_)
            · rw [if_pos c8] at hP
              refine r_fall ?_
              refine r_int ?_
              refine r_goto ?_
              exact r_ret rfl rfl (hPQ 1 hP)
            · rw [if_neg c8] at hP
              refine r_int ?_
              refine r_fall ?_
              exact r_ret rfl rfl (hPQ 0 hP)
          · rw [if_neg c7] at hP
            refine r_int ?_
            refine r_fall ?_
            exact r_ret rfl rfl (hPQ 0 hP)
        · rw [if_neg c6] at hP
          refine r_int ?_
          refine r_fall ?_
          exact r_ret rfl rfl (hPQ 0 hP)
      · rw [if_neg c5] at hP
        refine r_int ?_
        refine r_fall ?_
        exact r_ret rfl rfl (hPQ 0 hP)
    · rw [if_neg c4] at hP
      refine r_int ?_
      refine r_fall ?_
      exact r_ret rfl rfl (hPQ 0 hP)
  · rw [if_neg c2] at hP
    refine r_int ?_
    refine r_goto ?_
    exact r_ret rfl rfl (hPQ 1 hP)

def FX3_tell (x1 : Int32) (f_reg : mF) (f_timers : mF) : Int32 :=
  if x1 = 6 then ((f_reg 18)) else (if x1 = 7 then ((f_reg 19)) else (if x1 = 8 then (let u1 := FX3_isRunning f_reg; if u1 = 0 then (0) else ((f_reg 6))) else (if x1 = 9 then (if (f_reg 11) = (-1) then ((-1)) else (((2 * (f_reg 11)) + 1))) else (if x1 = 10 then ((f_timers 0)) else (if x1 < 0 then ((-1)) else (if 5 < x1 then ((-1)) else (let u7 := FX3_isRunning f_reg; if u7 = 0 then ((-1)) else ((f_reg ((x1 : Int32).toNatClampNeg))))))))))
def OX3_tell (x1 : Int32) (f_reg : mF) (f_timers : mF) : Prop :=
  ((x1 = 6 → True) ∧ (¬ (x1 = 6) → ((x1 = 7 → True) ∧ (¬ (x1 = 7) → ((x1 = 8 → True) ∧ (¬ (x1 = 8) → ((x1 = 9 → True) ∧ (¬ (x1 = 9) → ((x1 = 10 → True) ∧ (¬ (x1 = 10) → ((x1 < 0 → True) ∧ (¬ (x1 < 0) → ((5 < x1 → True) ∧ (¬ (5 < x1) → ((let u7 := FX3_isRunning f_reg; (u7 = 0 → True) ∧ (¬ (u7 = 0) → (vp_in x1 20))))))))))))))))))
set_option maxRecDepth 20000 in
theorem tX3_tell {d : Nat} {B : mB} {v : mV} {w : mX} {Q : Option Int32 → mMH → Prop} {b g : Nat} (hB : isMach B b g) (hd : g + 2 ≤ b) (x1 : Int32) (f_reg : mF) (f_timers : mF) (hO : OX3_tell x1 f_reg f_timers) (hQ : Q (some (FX3_tell x1 f_reg f_timers)) (mH B (mE v [(b + 1, f_reg), (b + 4, f_timers)]) w)) : CQ (d + 2) 27 [.ref b, .int x1] (mH B (mE v [(b + 1, f_reg), (b + 4, f_timers)]) w) Q := by
  have hn : ∀ (f_reg : mF) (f_timers : mF), mNd [(b + 1, f_reg), (b + 4, f_timers)] := fun _ _ => by
    show List.Nodup _
    simp only [List.map_cons, List.map_nil, List.nodup_cons, List.mem_cons, List.not_mem_nil, or_false, not_or, not_false_eq_true, List.nodup_nil, and_true]
    omega
  obtain ⟨P, hPQ, hP⟩ : ∃ P : Int32 → Prop, (∀ (q : Int32), P q → Q (some q) (mH B (mE v [(b + 1, f_reg), (b + 4, f_timers)]) w)) ∧ P (FX3_tell x1 f_reg f_timers) := ⟨fun res => Q (some res) (mH B (mE v [(b + 1, f_reg), (b + 4, f_timers)]) w), fun _ h => h, hQ⟩
  refine r_begin mt_27 (by intro a ha; simp only [List.mem_cons, List.not_mem_nil, or_false] at ha; rcases ha with rfl | rfl <;> rfl) (Nat.le_of_ble_eq_true rfl) ?_
  rw [FX3_tell] at hP
  rw [OX3_tell] at hO
  show RB _ _ _ _ [some (.ref b), some (.int x1)] [] _ _
  refine r_iload rfl ?_
  by_cases c11 : x1 = 6
  · rw [if_pos c11] at hP
    have hO := hO.1 c11
    refine r_tswAt (k := 0) (b := 1) rfl (by rw [c11]; decide) ?_
    refine r_aload rfl ?_
    refine r_getr (q := b + 1) hB.1 hB.2.2.2.2.2.2.2.2.2.2.1 ?_
    refine r_int ?_
    refine r_ald (x := f_reg 18) 0 18 (hn _ _) rfl hB.2.1 (by decide) rfl (lt_in 18 20 rfl rfl) (lt_cl 18 rfl) rfl ?_
    exact r_ret rfl rfl (hPQ (f_reg 18) hP)
  · rw [if_neg c11] at hP
    have hO := hO.2 c11
    by_cases c12 : x1 = 7
    · rw [if_pos c12] at hP
      have hO := hO.1 c12
      refine r_tswAt (k := 1) (b := 2) rfl (by rw [c12]; decide) ?_
      refine r_aload rfl ?_
      refine r_getr (q := b + 1) hB.1 hB.2.2.2.2.2.2.2.2.2.2.1 ?_
      refine r_int ?_
      refine r_ald (x := f_reg 19) 0 19 (hn _ _) rfl hB.2.1 (by decide) rfl (lt_in 19 20 rfl rfl) (lt_cl 19 rfl) rfl ?_
      exact r_ret rfl rfl (hPQ (f_reg 19) hP)
    · rw [if_neg c12] at hP
      have hO := hO.2 c12
      by_cases c13 : x1 = 8
      · rw [if_pos c13] at hP
        have hO := hO.1 c13
        refine r_tswAt (k := 2) (b := 3) rfl (by rw [c13]; decide) ?_
        refine r_aload rfl ?_
        have k3 := fun (Q' : Option Int32 → mMH → Prop) hq => tX3_isRunning (d := d + 0) (B := B) (v := mE v [(b + 1, f_reg), (b + 4, f_timers)]) (w := w) (Q := Q') hB (by omega) f_reg hq
        generalize hg_u1 : FX3_isRunning f_reg = u1 at k3 hP
        try dsimp only at hP
        refine r_callV (st := []) (o := b) (as := []) (envc := [(b + 1, f_reg)]) (envc' := [(b + 1, f_reg)]) (env' := [(b + 1, f_reg), (b + 4, f_timers)]) (rv := some u1) [0] (hn _ _) rfl rfl (Nat.le_of_ble_eq_true rfl) hB.1 rfl rfl rfl k3 ?_
        show RB _ _ _ _ _ [.int u1] _ _
        refine r_if (fun c2 : u1 = 0 => ?_) (fun c2 : ¬ (u1 = 0) => ?_)
        · rw [if_pos c2] at hP
          refine r_int ?_
          refine r_fall ?_
          exact r_ret rfl rfl (hPQ 0 hP)
        · rw [if_neg c2] at hP
          refine r_aload rfl ?_
          refine r_getr (q := b + 1) hB.1 hB.2.2.2.2.2.2.2.2.2.2.1 ?_
          refine r_int ?_
          refine r_ald (x := f_reg 6) 0 6 (hn _ _) rfl hB.2.1 (by decide) rfl (lt_in 6 20 rfl rfl) (lt_cl 6 rfl) rfl ?_
          refine r_goto ?_
          exact r_ret rfl rfl (hPQ (f_reg 6) hP)
      · rw [if_neg c13] at hP
        have hO := hO.2 c13
        by_cases c14 : x1 = 9
        · rw [if_pos c14] at hP
          have hO := hO.1 c14
          refine r_tswAt (k := 3) (b := 6) rfl (by rw [c14]; decide) ?_
          refine r_aload rfl ?_
          refine r_getr (q := b + 1) hB.1 hB.2.2.2.2.2.2.2.2.2.2.1 ?_
          refine r_int ?_
          refine r_ald (x := f_reg 11) 0 11 (hn _ _) rfl hB.2.1 (by decide) rfl (lt_in 11 20 rfl rfl) (lt_cl 11 rfl) rfl ?_
          refine r_int ?_
          refine r_icmp1 (fun c4 : (f_reg 11) = (-1) => ?_) (fun c4 : ¬ ((f_reg 11) = (-1)) => ?_)
          · rw [if_pos c4] at hP
            refine r_int ?_
            refine r_goto ?_
            exact r_ret rfl rfl (hPQ (-1) hP)
          · rw [if_neg c4] at hP
            refine r_int ?_
            refine r_aload rfl ?_
            refine r_getr (q := b + 1) hB.1 hB.2.2.2.2.2.2.2.2.2.2.1 ?_
            refine r_int ?_
            refine r_ald (x := f_reg 11) 0 11 (hn _ _) rfl hB.2.1 (by decide) rfl (lt_in 11 20 rfl rfl) (lt_cl 11 rfl) rfl ?_
            refine r_imul ?_
            refine r_int ?_
            refine r_iadd ?_
            refine r_fall ?_
            exact r_ret rfl rfl (hPQ ((2 * (f_reg 11)) + 1) hP)
        · rw [if_neg c14] at hP
          have hO := hO.2 c14
          by_cases c15 : x1 = 10
          · rw [if_pos c15] at hP
            have hO := hO.1 c15
            refine r_tswAt (k := 4) (b := 9) rfl (by rw [c15]; decide) ?_
            refine r_aload rfl ?_
            refine r_getr (q := b + 4) hB.1 hB.2.2.2.2.2.2.2.2.2.2.2.2.2.1 ?_
            refine r_get (x := f_timers 0) 1 (hn _ _) rfl hB.2.2.2.2.2.1.1 (by decide) rfl ?_
            exact r_ret rfl rfl (hPQ (f_timers 0) hP)
          · rw [if_neg c15] at hP
            have hO := hO.2 c15
            refine r_tswD (fun k hk => ?_) ?_
            · have hk : k < 5 := hk
              rcases (show k = 0 ∨ k = 1 ∨ k = 2 ∨ k = 3 ∨ k = 4 by omega) with rfl | rfl | rfl | rfl | rfl
              · rw [show (6 : Int32) + nI 0 = 6 by decide +kernel]; exact c11
              · rw [show (6 : Int32) + nI 1 = 7 by decide +kernel]; exact c12
              · rw [show (6 : Int32) + nI 2 = 8 by decide +kernel]; exact c13
              · rw [show (6 : Int32) + nI 3 = 9 by decide +kernel]; exact c14
              · rw [show (6 : Int32) + nI 4 = 10 by decide +kernel]; exact c15
            refine r_iload rfl ?_
            refine r_if (fun c5 : x1 < 0 => ?_) (fun c5 : ¬ (x1 < 0) => ?_)
            · rw [if_pos c5] at hP
              have hO := hO.1 c5
              refine r_int ?_
              refine r_fall ?_
              exact r_ret rfl rfl (hPQ (-1) hP)
            · rw [if_neg c5] at hP
              have hO := hO.2 c5
              refine r_iload rfl ?_
              refine r_int ?_
              refine r_icmp (fun c6 : 5 < x1 => ?_) (fun c6 : ¬ (5 < x1) => ?_)
              · rw [if_pos c6] at hP
                have hO := hO.1 c6
                refine r_int ?_
                refine r_fall ?_
                exact r_ret rfl rfl (hPQ (-1) hP)
              · rw [if_neg c6] at hP
                have hO := hO.2 c6
                refine r_aload rfl ?_
                have k10 := fun (Q' : Option Int32 → mMH → Prop) hq => tX3_isRunning (d := d + 0) (B := B) (v := mE v [(b + 1, f_reg), (b + 4, f_timers)]) (w := w) (Q := Q') hB (by omega) f_reg hq
                generalize hg_u7 : FX3_isRunning f_reg = u7 at k10 hP hO
                try dsimp only at hP hO
                refine r_callV (st := []) (o := b) (as := []) (envc := [(b + 1, f_reg)]) (envc' := [(b + 1, f_reg)]) (env' := [(b + 1, f_reg), (b + 4, f_timers)]) (rv := some u7) [0] (hn _ _) rfl rfl (Nat.le_of_ble_eq_true rfl) hB.1 rfl rfl rfl k10 ?_
                show RB _ _ _ _ _ [.int u7] _ _
                refine r_if (fun c8 : u7 = 0 => ?_) (fun c8 : ¬ (u7 = 0) => ?_)
                · rw [if_pos c8] at hP
                  have hO := hO.1 c8
                  refine r_int ?_
                  refine r_fall ?_
                  exact r_ret rfl rfl (hPQ (-1) hP)
                · rw [if_neg c8] at hP
                  have hO := hO.2 c8
                  refine r_aload rfl ?_
                  refine r_getr (q := b + 1) hB.1 hB.2.2.2.2.2.2.2.2.2.2.1 ?_
                  refine r_iload rfl ?_
                  have h9 := hO
                  refine r_ald (x := f_reg ((x1 : Int32).toNatClampNeg)) 0 ((x1 : Int32).toNatClampNeg) (hn _ _) rfl hB.2.1 (by decide) rfl h9 rfl rfl ?_
                  refine r_goto ?_
                  exact r_ret rfl rfl (hPQ (f_reg ((x1 : Int32).toNatClampNeg)) hP)

def FX3_inQueue_b1 : Nat → Int32 → Int32 → Int32 → Int32 → mF → mF → Int32
  | 0, _, _, _, _, _, _ => 0
  | n + 1, y2, y3, y4, y5, f_reg, f_memory =>
    if 48 ≤ y5 then (if y2 = (-1) then (y5) else ((-2))) else (let u5 := FX9_isProcess y4; if u5 = 0 then (if y2 = (-1) then (y5) else ((-2))) else (if y5 = y2 then (y4) else (if y4 = y3 then (FX3_inQueue_b1 n y2 y3 (-1) (y5 + 1) f_reg f_memory) else (FX3_inQueue_b1 n y2 y3 (f_memory (((y4 / 2) - 2 : Int32).toNatClampNeg)) (y5 + 1) f_reg f_memory))))
def OX3_inQueue_b1 : Nat → Int32 → Int32 → Int32 → Int32 → mF → mF → Prop
  | 0, _, _, _, _, _, _ => False
  | n + 1, y2, y3, y4, y5, f_reg, f_memory =>
    (48 ≤ y5 → True) ∧ (¬ (48 ≤ y5) → ((let u5 := FX9_isProcess y4; (u5 = 0 → True) ∧ (¬ (u5 = 0) → ((y5 = y2 → True) ∧ (¬ (y5 = y2) → ((y4 = y3 → (OX3_inQueue_b1 n y2 y3 (-1) (y5 + 1) f_reg f_memory)) ∧ (¬ (y4 = y3) → (vp_in ((y4 / 2) - 2) 96 ∧ (OX3_inQueue_b1 n y2 y3 (f_memory (((y4 / 2) - 2 : Int32).toNatClampNeg)) (y5 + 1) f_reg f_memory))))))))))
set_option maxRecDepth 20000 in
theorem tX3_inQueue_b1 {d : Nat} {B : mB} {v : mV} {w : mX} {Q : Option Int32 → mMH → Prop} {b g : Nat} (hB : isMach B b g) (hd : g + 2 ≤ b) {P : Int32 → Prop} {f_reg : mF} {f_memory : mF} (hPQ : ∀ (q : Int32), P q → Q (some q) (mH B (mE v [(b + 1, f_reg), (b + 3, f_memory)]) w)) : ∀ (n : Nat) (y2 : Int32) (y3 : Int32) (y4 : Int32) (y5 : Int32) (e1 : Option Value) (he1 : mC1 e1 = true), OX3_inQueue_b1 n y2 y3 y4 y5 f_reg f_memory → P (FX3_inQueue_b1 n y2 y3 y4 y5 f_reg f_memory) → RJ (d + 1) kX3_inQueue (some .int) 1 [some (.ref b), e1, some (.int y2), some (.int y3), some (.int y4), some (.int y5)] [] (mH B (mE v [(b + 1, f_reg), (b + 3, f_memory)]) w) Q := by
  intro n
  induction n with
  | zero => exact fun _ _ _ _ _ _ hO => hO.elim
  | succ n ih1 =>
    intro y2 y3 y4 y5 e1 he1 hO hP
    rw [FX3_inQueue_b1] at hP
    rw [OX3_inQueue_b1] at hO
    have hn : ∀ (f_reg : mF) (f_memory : mF), mNd [(b + 1, f_reg), (b + 3, f_memory)] := fun _ _ => by
      show List.Nodup _
      simp only [List.map_cons, List.map_nil, List.nodup_cons, List.mem_cons, List.not_mem_nil, or_false, not_or, not_false_eq_true, List.nodup_nil, and_true]
      omega
    show RB _ _ _ _ [some (.ref b), e1, some (.int y2), some (.int y3), some (.int y4), some (.int y5)] [] _ _
    refine r_iload rfl ?_
    refine r_int ?_
    refine r_icmp (fun c3 : 48 ≤ y5 => ?_) (fun c3 : ¬ (48 ≤ y5) => ?_)
    · rw [if_pos c3] at hP
      have hO := hO.1 c3
      refine r_iload rfl ?_
      refine r_int ?_
      refine r_icmp1 (fun c4 : y2 = (-1) => ?_) (fun c4 : ¬ (y2 = (-1)) => ?_)
      · rw [if_pos c4] at hP
        refine r_iload rfl ?_
        refine r_goto ?_
        exact r_ret rfl rfl (hPQ y5 hP)
      · rw [if_neg c4] at hP
        refine r_int ?_
        refine r_fall ?_
        exact r_ret rfl rfl (hPQ (-2) hP)
    · rw [if_neg c3] at hP
      have hO := hO.2 c3
      refine r_iload rfl ?_
      have k11 := fun (Q' : Option Int32 → mMH → Prop) hq => tX9_isProcess (d := d + 0) (B := B) (v := mE v [(b + 1, f_reg), (b + 3, f_memory)]) (w := w) (Q := Q') y4 hq
      generalize hg_u5 : FX9_isProcess y4 = u5 at k11 hP hO
      try dsimp only at hP hO
      refine r_callS (st := []) (as := [.int y4]) (envc := []) (envc' := []) (env' := [(b + 1, f_reg), (b + 3, f_memory)]) (rv := some u5) [] (Or.inr rfl) (hn _ _) rfl rfl (Nat.le_of_ble_eq_true rfl) rfl rfl rfl k11 ?_
      show RB _ _ _ _ _ [.int u5] _ _
      refine r_if (fun c6 : u5 = 0 => ?_) (fun c6 : ¬ (u5 = 0) => ?_)
      · rw [if_pos c6] at hP
        have hO := hO.1 c6
        refine r_iload rfl ?_
        refine r_int ?_
        refine r_icmp1 (fun c7 : y2 = (-1) => ?_) (fun c7 : ¬ (y2 = (-1)) => ?_)
        · rw [if_pos c7] at hP
          refine r_iload rfl ?_
          refine r_goto ?_
          exact r_ret rfl rfl (hPQ y5 hP)
        · rw [if_neg c7] at hP
          refine r_int ?_
          refine r_fall ?_
          exact r_ret rfl rfl (hPQ (-2) hP)
      · rw [if_neg c6] at hP
        have hO := hO.2 c6
        refine r_iload rfl ?_
        refine r_iload rfl ?_
        refine r_icmp1 (fun c8 : y5 = y2 => ?_) (fun c8 : ¬ (y5 = y2) => ?_)
        · rw [if_pos c8] at hP
          have hO := hO.1 c8
          refine r_iload rfl ?_
          exact r_ret rfl rfl (hPQ y4 hP)
        · rw [if_neg c8] at hP
          have hO := hO.2 c8
          refine r_iinc (L' := [some (.ref b), e1, some (.int y2), some (.int y3), some (.int y4), some (.int (y5 + 1))]) rfl rfl rfl ?_
          refine r_iload rfl ?_
          refine r_iload rfl ?_
          refine r_icmp1 (fun c9 : y4 = y3 => ?_) (fun c9 : ¬ (y4 = y3) => ?_)
          · rw [if_pos c9] at hP
            have hO := hO.1 c9
            refine r_int ?_
            refine r_goto ?_
            refine r_istore (L' := [some (.ref b), e1, some (.int y2), some (.int y3), some (.int (-1)), some (.int (y5 + 1))]) rfl rfl ?_
            refine r_goto ?_
            exact ih1 y2 y3 (-1) (y5 + 1) e1 he1 hO hP
          · rw [if_neg c9] at hP
            have hO := hO.2 c9
            refine r_aload rfl ?_
            refine r_getr (q := b + 3) hB.1 hB.2.2.2.2.2.2.2.2.2.2.2.2.1 ?_
            refine r_iload rfl ?_
            refine r_int ?_
            refine r_idiv (by decide) ?_
            refine r_int ?_
            refine r_isub ?_
            obtain ⟨h10, hO⟩ := hO
            refine r_ald (x := f_memory (((y4 / 2) - 2 : Int32).toNatClampNeg)) 1 (((y4 / 2) - 2 : Int32).toNatClampNeg) (hn _ _) rfl hB.2.2.2.1 (by decide) rfl h10 rfl rfl ?_
            refine r_fall ?_
            refine r_istore (L' := [some (.ref b), e1, some (.int y2), some (.int y3), some (.int (f_memory (((y4 / 2) - 2 : Int32).toNatClampNeg))), some (.int (y5 + 1))]) rfl rfl ?_
            refine r_goto ?_
            exact ih1 y2 y3 (f_memory (((y4 / 2) - 2 : Int32).toNatClampNeg)) (y5 + 1) e1 he1 hO hP
def FX3_inQueue (x1 : Int32) (x2 : Int32) (f_reg : mF) (f_memory : mF) : Int32 :=
  FX3_inQueue_b1 10000 x2 (f_reg ((16 + x1 : Int32).toNatClampNeg)) (f_reg ((14 + x1 : Int32).toNatClampNeg)) 0 f_reg f_memory
def OX3_inQueue (x1 : Int32) (x2 : Int32) (f_reg : mF) (f_memory : mF) : Prop :=
  vp_in (16 + x1) 20 ∧ (vp_in (14 + x1) 20 ∧ (OX3_inQueue_b1 10000 x2 (f_reg ((16 + x1 : Int32).toNatClampNeg)) (f_reg ((14 + x1 : Int32).toNatClampNeg)) 0 f_reg f_memory))
set_option maxRecDepth 20000 in
theorem tX3_inQueue {d : Nat} {B : mB} {v : mV} {w : mX} {Q : Option Int32 → mMH → Prop} {b g : Nat} (hB : isMach B b g) (hd : g + 2 ≤ b) (x1 : Int32) (x2 : Int32) (f_reg : mF) (f_memory : mF) (hO : OX3_inQueue x1 x2 f_reg f_memory) (hQ : Q (some (FX3_inQueue x1 x2 f_reg f_memory)) (mH B (mE v [(b + 1, f_reg), (b + 3, f_memory)]) w)) : CQ (d + 2) 28 [.ref b, .int x1, .int x2] (mH B (mE v [(b + 1, f_reg), (b + 3, f_memory)]) w) Q := by
  have hn : ∀ (f_reg : mF) (f_memory : mF), mNd [(b + 1, f_reg), (b + 3, f_memory)] := fun _ _ => by
    show List.Nodup _
    simp only [List.map_cons, List.map_nil, List.nodup_cons, List.mem_cons, List.not_mem_nil, or_false, not_or, not_false_eq_true, List.nodup_nil, and_true]
    omega
  obtain ⟨P, hPQ, hP⟩ : ∃ P : Int32 → Prop, (∀ (q : Int32), P q → Q (some q) (mH B (mE v [(b + 1, f_reg), (b + 3, f_memory)]) w)) ∧ P (FX3_inQueue x1 x2 f_reg f_memory) := ⟨fun res => Q (some res) (mH B (mE v [(b + 1, f_reg), (b + 3, f_memory)]) w), fun _ h => h, hQ⟩
  refine r_begin mt_28 (by intro a ha; simp only [List.mem_cons, List.not_mem_nil, or_false] at ha; rcases ha with rfl | rfl | rfl <;> rfl) (Nat.le_of_ble_eq_true rfl) ?_
  rw [FX3_inQueue] at hP
  rw [OX3_inQueue] at hO
  show RB _ _ _ _ [some (.ref b), some (.int x1), some (.int x2), none, none, none] [] _ _
  refine r_aload rfl ?_
  refine r_getr (q := b + 1) hB.1 hB.2.2.2.2.2.2.2.2.2.2.1 ?_
  refine r_int ?_
  refine r_iload rfl ?_
  refine r_iadd ?_
  obtain ⟨h1, hO⟩ := hO
  refine r_ald (x := f_reg ((16 + x1 : Int32).toNatClampNeg)) 0 ((16 + x1 : Int32).toNatClampNeg) (hn _ _) rfl hB.2.1 (by decide) rfl h1 rfl rfl ?_
  refine r_istore (L' := [some (.ref b), some (.int x1), some (.int x2), some (.int (f_reg ((16 + x1 : Int32).toNatClampNeg))), none, none]) rfl rfl ?_
  refine r_aload rfl ?_
  refine r_getr (q := b + 1) hB.1 hB.2.2.2.2.2.2.2.2.2.2.1 ?_
  refine r_int ?_
  refine r_iload rfl ?_
  refine r_iadd ?_
  obtain ⟨h2, hO⟩ := hO
  refine r_ald (x := f_reg ((14 + x1 : Int32).toNatClampNeg)) 0 ((14 + x1 : Int32).toNatClampNeg) (hn _ _) rfl hB.2.1 (by decide) rfl h2 rfl rfl ?_
  refine r_istore (L' := [some (.ref b), some (.int x1), some (.int x2), some (.int (f_reg ((16 + x1 : Int32).toNatClampNeg))), some (.int (f_reg ((14 + x1 : Int32).toNatClampNeg))), none]) rfl rfl ?_
  refine r_int ?_
  refine r_istore (L' := [some (.ref b), some (.int x1), some (.int x2), some (.int (f_reg ((16 + x1 : Int32).toNatClampNeg))), some (.int (f_reg ((14 + x1 : Int32).toNatClampNeg))), some (.int 0)]) rfl rfl ?_
  refine r_fall ?_
  exact tX3_inQueue_b1 hB hd hPQ 10000 x2 (f_reg ((16 + x1 : Int32).toNatClampNeg)) (f_reg ((14 + x1 : Int32).toNatClampNeg)) 0 (some (.int x1)) rfl hO hP

def FX3_beginProcess (x1 : Int32) (x2 : Int32) (x3 : Int32) (f_reg : mF) (f_memory : mF) : Int32 × mF × mF :=
  let g2 := upd f_memory ((x1 - 1 : Int32).toNatClampNeg) x3; let u3 := FX3_schedule ((2 * x1) + x2) f_reg g2; (0, u3.2.1, u3.2.2)
def OX3_beginProcess (x1 : Int32) (x2 : Int32) (x3 : Int32) (f_reg : mF) (f_memory : mF) : Prop :=
  vp_in (x1 - 1) 96 ∧ (let g2 := upd f_memory ((x1 - 1 : Int32).toNatClampNeg) x3; OX3_schedule ((2 * x1) + x2) f_reg g2)
set_option maxRecDepth 20000 in
theorem tX3_beginProcess {d : Nat} {B : mB} {v : mV} {w : mX} {Q : Option Int32 → mMH → Prop} {b g : Nat} (hB : isMach B b g) (hd : g + 2 ≤ b) (x1 : Int32) (x2 : Int32) (x3 : Int32) (f_reg : mF) (f_memory : mF) (hO : OX3_beginProcess x1 x2 x3 f_reg f_memory) (hQ : Q (none) (mH B (mE v [(b + 1, (FX3_beginProcess x1 x2 x3 f_reg f_memory).2.1), (b + 3, (FX3_beginProcess x1 x2 x3 f_reg f_memory).2.2)]) w)) : CQ (d + 3) 22 [.ref b, .int x1, .int x2, .int x3] (mH B (mE v [(b + 1, f_reg), (b + 3, f_memory)]) w) Q := by
  have hn : ∀ (f_reg : mF) (f_memory : mF), mNd [(b + 1, f_reg), (b + 3, f_memory)] := fun _ _ => by
    show List.Nodup _
    simp only [List.map_cons, List.map_nil, List.nodup_cons, List.mem_cons, List.not_mem_nil, or_false, not_or, not_false_eq_true, List.nodup_nil, and_true]
    omega
  obtain ⟨P, hPQ, hP⟩ : ∃ P : Int32 × mF × mF → Prop, (∀ (q : Int32) (q0 : mF) (q1 : mF), P (q, q0, q1) → Q (none) (mH B (mE v [(b + 1, q0), (b + 3, q1)]) w)) ∧ P (FX3_beginProcess x1 x2 x3 f_reg f_memory) := ⟨fun res => Q (none) (mH B (mE v [(b + 1, res.2.1), (b + 3, res.2.2)]) w), fun _ _ _ h => h, hQ⟩
  refine r_begin mt_22 (by intro a ha; simp only [List.mem_cons, List.not_mem_nil, or_false] at ha; rcases ha with rfl | rfl | rfl | rfl <;> rfl) (Nat.le_of_ble_eq_true rfl) ?_
  rw [FX3_beginProcess] at hP
  rw [OX3_beginProcess] at hO
  show RB _ _ _ _ [some (.ref b), some (.int x1), some (.int x2), some (.int x3)] [] _ _
  refine r_aload rfl ?_
  refine r_getr (q := b + 3) hB.1 hB.2.2.2.2.2.2.2.2.2.2.2.2.1 ?_
  refine r_iload rfl ?_
  refine r_int ?_
  refine r_isub ?_
  refine r_iload rfl ?_
  obtain ⟨h1, hO⟩ := hO
  refine r_ast (y := x3) (env' := [(b + 1, f_reg), (b + 3, (upd f_memory ((x1 - 1 : Int32).toNatClampNeg) x3))]) 1 ((x1 - 1 : Int32).toNatClampNeg) (hn _ _) rfl hB.2.2.2.1 (by decide) rfl h1 rfl rfl rfl ?_
  generalize hg_g2 : upd f_memory ((x1 - 1 : Int32).toNatClampNeg) x3 = g2 at hP hO ⊢
  try dsimp only at hP hO
  refine r_aload rfl ?_
  refine r_int ?_
  refine r_iload rfl ?_
  refine r_imul ?_
  refine r_iload rfl ?_
  refine r_iadd ?_
  have h4 := hO
  have k5 := fun (Q' : Option Int32 → mMH → Prop) hq => tX3_schedule (d := d + 0) (B := B) (v := mE v [(b + 1, f_reg), (b + 3, g2)]) (w := w) (Q := Q') hB (by omega) ((2 * x1) + x2) f_reg g2 h4 hq
  generalize hg_u3 : FX3_schedule ((2 * x1) + x2) f_reg g2 = u3 at k5 hP
  try dsimp only at hP
  refine r_callV (st := []) (o := b) (as := [.int ((2 * x1) + x2)]) (envc := [(b + 1, f_reg), (b + 3, g2)]) (envc' := [(b + 1, u3.2.1), (b + 3, u3.2.2)]) (env' := [(b + 1, u3.2.1), (b + 3, u3.2.2)]) (rv := none) [0, 1] (hn _ _) rfl rfl (Nat.le_of_ble_eq_true rfl) hB.1 rfl rfl rfl k5 ?_
  show RB _ _ _ _ _ [] _ _
  exact r_retv rfl (hPQ 0 u3.2.1 u3.2.2 hP)

def FX3_take (x1 : Int32) (f_reg : mF) (f_memory : mF) : Int32 × mF :=
  let u2 := FX9_isProcess (f_reg ((14 + x1 : Int32).toNatClampNeg)); if u2 = 0 then ((0, f_reg)) else (if (f_reg ((14 + x1 : Int32).toNatClampNeg)) = (f_reg ((16 + x1 : Int32).toNatClampNeg)) then (let g7 := upd f_reg ((14 + x1 : Int32).toNatClampNeg) (-1); let g9 := upd g7 ((16 + x1 : Int32).toNatClampNeg) (-1); let u11 := FX3_clear (upd (upd (upd (upd g9 4 ((f_reg ((14 + x1 : Int32).toNatClampNeg)) / 2)) 3 (f_memory ((((f_reg ((14 + x1 : Int32).toNatClampNeg)) / 2) - 1 : Int32).toNatClampNeg))) 5 x1) 6 0); (1, u11.2)) else (let g15 := upd f_reg ((14 + x1 : Int32).toNatClampNeg) (f_memory ((((f_reg ((14 + x1 : Int32).toNatClampNeg)) / 2) - 2 : Int32).toNatClampNeg)); let u17 := FX3_clear (upd (upd (upd (upd g15 4 ((f_reg ((14 + x1 : Int32).toNatClampNeg)) / 2)) 3 (f_memory ((((f_reg ((14 + x1 : Int32).toNatClampNeg)) / 2) - 1 : Int32).toNatClampNeg))) 5 x1) 6 0); (1, u17.2)))
def OX3_take (x1 : Int32) (f_reg : mF) (f_memory : mF) : Prop :=
  vp_in (14 + x1) 20 ∧ ((let u2 := FX9_isProcess (f_reg ((14 + x1 : Int32).toNatClampNeg)); (u2 = 0 → True) ∧ (¬ (u2 = 0) → (vp_in (16 + x1) 20 ∧ (((f_reg ((14 + x1 : Int32).toNatClampNeg)) = (f_reg ((16 + x1 : Int32).toNatClampNeg)) → (vp_in (14 + x1) 20 ∧ (let g7 := upd f_reg ((14 + x1 : Int32).toNatClampNeg) (-1); vp_in (16 + x1) 20 ∧ (let g9 := upd g7 ((16 + x1 : Int32).toNatClampNeg) (-1); vp_in (((f_reg ((14 + x1 : Int32).toNatClampNeg)) / 2) - 1) 96)))) ∧ (¬ ((f_reg ((14 + x1 : Int32).toNatClampNeg)) = (f_reg ((16 + x1 : Int32).toNatClampNeg))) → (vp_in (((f_reg ((14 + x1 : Int32).toNatClampNeg)) / 2) - 2) 96 ∧ (vp_in (14 + x1) 20 ∧ (let g15 := upd f_reg ((14 + x1 : Int32).toNatClampNeg) (f_memory ((((f_reg ((14 + x1 : Int32).toNatClampNeg)) / 2) - 2 : Int32).toNatClampNeg)); vp_in (((f_reg ((14 + x1 : Int32).toNatClampNeg)) / 2) - 1) 96)))))))))
set_option maxRecDepth 20000 in
theorem tX3_take {d : Nat} {B : mB} {v : mV} {w : mX} {Q : Option Int32 → mMH → Prop} {b g : Nat} (hB : isMach B b g) (hd : g + 2 ≤ b) (x1 : Int32) (f_reg : mF) (f_memory : mF) (hO : OX3_take x1 f_reg f_memory) (hQ : Q (some ((FX3_take x1 f_reg f_memory).1)) (mH B (mE v [(b + 1, (FX3_take x1 f_reg f_memory).2), (b + 3, f_memory)]) w)) : CQ (d + 2) 31 [.ref b, .int x1] (mH B (mE v [(b + 1, f_reg), (b + 3, f_memory)]) w) Q := by
  have hn : ∀ (f_reg : mF) (f_memory : mF), mNd [(b + 1, f_reg), (b + 3, f_memory)] := fun _ _ => by
    show List.Nodup _
    simp only [List.map_cons, List.map_nil, List.nodup_cons, List.mem_cons, List.not_mem_nil, or_false, not_or, not_false_eq_true, List.nodup_nil, and_true]
    omega
  obtain ⟨P, hPQ, hP⟩ : ∃ P : Int32 × mF → Prop, (∀ (q : Int32) (q0 : mF), P (q, q0) → Q (some q) (mH B (mE v [(b + 1, q0), (b + 3, f_memory)]) w)) ∧ P (FX3_take x1 f_reg f_memory) := ⟨fun res => Q (some res.1) (mH B (mE v [(b + 1, res.2), (b + 3, f_memory)]) w), fun _ _ h => h, hQ⟩
  refine r_begin mt_31 (by intro a ha; simp only [List.mem_cons, List.not_mem_nil, or_false] at ha; rcases ha with rfl | rfl <;> rfl) (Nat.le_of_ble_eq_true rfl) ?_
  rw [FX3_take] at hP
  rw [OX3_take] at hO
  show RB _ _ _ _ [some (.ref b), some (.int x1), none, none] [] _ _
  refine r_aload rfl ?_
  refine r_getr (q := b + 1) hB.1 hB.2.2.2.2.2.2.2.2.2.2.1 ?_
  refine r_int ?_
  refine r_iload rfl ?_
  refine r_iadd ?_
  obtain ⟨h1, hO⟩ := hO
  refine r_ald (x := f_reg ((14 + x1 : Int32).toNatClampNeg)) 0 ((14 + x1 : Int32).toNatClampNeg) (hn _ _) rfl hB.2.1 (by decide) rfl h1 rfl rfl ?_
  refine r_istore (L' := [some (.ref b), some (.int x1), some (.int (f_reg ((14 + x1 : Int32).toNatClampNeg))), none]) rfl rfl ?_
  refine r_iload rfl ?_
  have k19 := fun (Q' : Option Int32 → mMH → Prop) hq => tX9_isProcess (d := d + 0) (B := B) (v := mE v [(b + 1, f_reg), (b + 3, f_memory)]) (w := w) (Q := Q') (f_reg ((14 + x1 : Int32).toNatClampNeg)) hq
  generalize hg_u2 : FX9_isProcess (f_reg ((14 + x1 : Int32).toNatClampNeg)) = u2 at k19 hP hO
  try dsimp only at hP hO
  refine r_callS (st := []) (as := [.int (f_reg ((14 + x1 : Int32).toNatClampNeg))]) (envc := []) (envc' := []) (env' := [(b + 1, f_reg), (b + 3, f_memory)]) (rv := some u2) [] (Or.inr rfl) (hn _ _) rfl rfl (Nat.le_of_ble_eq_true rfl) rfl rfl rfl k19 ?_
  show RB _ _ _ _ _ [.int u2] _ _
  refine r_if1 (fun c3 : u2 = 0 => ?_) (fun c3 : ¬ (u2 = 0) => ?_)
  · rw [if_pos c3] at hP
    have hO := hO.1 c3
    refine r_int ?_
    exact r_ret rfl rfl (hPQ 0 f_reg hP)
  · rw [if_neg c3] at hP
    have hO := hO.2 c3
    refine r_iload rfl ?_
    refine r_int ?_
    refine r_idiv (by decide) ?_
    refine r_istore (L' := [some (.ref b), some (.int x1), some (.int (f_reg ((14 + x1 : Int32).toNatClampNeg))), some (.int ((f_reg ((14 + x1 : Int32).toNatClampNeg)) / 2))]) rfl rfl ?_
    refine r_iload rfl ?_
    refine r_aload rfl ?_
    refine r_getr (q := b + 1) hB.1 hB.2.2.2.2.2.2.2.2.2.2.1 ?_
    refine r_int ?_
    refine r_iload rfl ?_
    refine r_iadd ?_
    obtain ⟨h4, hO⟩ := hO
    refine r_ald (x := f_reg ((16 + x1 : Int32).toNatClampNeg)) 0 ((16 + x1 : Int32).toNatClampNeg) (hn _ _) rfl hB.2.1 (by decide) rfl h4 rfl rfl ?_
    refine r_icmp1 (fun c5 : (f_reg ((14 + x1 : Int32).toNatClampNeg)) = (f_reg ((16 + x1 : Int32).toNatClampNeg)) => ?_) (fun c5 : ¬ ((f_reg ((14 + x1 : Int32).toNatClampNeg)) = (f_reg ((16 + x1 : Int32).toNatClampNeg))) => ?_)
    · rw [if_pos c5] at hP
      have hO := hO.1 c5
      refine r_aload rfl ?_
      refine r_getr (q := b + 1) hB.1 hB.2.2.2.2.2.2.2.2.2.2.1 ?_
      refine r_int ?_
      refine r_iload rfl ?_
      refine r_iadd ?_
      refine r_int ?_
      obtain ⟨h6, hO⟩ := hO
      refine r_ast (y := (-1)) (env' := [(b + 1, (upd f_reg ((14 + x1 : Int32).toNatClampNeg) (-1))), (b + 3, f_memory)]) 0 ((14 + x1 : Int32).toNatClampNeg) (hn _ _) rfl hB.2.1 (by decide) rfl h6 rfl rfl rfl ?_
      generalize hg_g7 : upd f_reg ((14 + x1 : Int32).toNatClampNeg) (-1) = g7 at hP hO ⊢
      try dsimp only at hP hO
      refine r_aload rfl ?_
      refine r_getr (q := b + 1) hB.1 hB.2.2.2.2.2.2.2.2.2.2.1 ?_
      refine r_int ?_
      refine r_iload rfl ?_
      refine r_iadd ?_
      refine r_int ?_
      obtain ⟨h8, hO⟩ := hO
      refine r_ast (y := (-1)) (env' := [(b + 1, (upd g7 ((16 + x1 : Int32).toNatClampNeg) (-1))), (b + 3, f_memory)]) 0 ((16 + x1 : Int32).toNatClampNeg) (hn _ _) rfl hB.2.1 (by decide) rfl h8 rfl rfl rfl ?_
      generalize hg_g9 : upd g7 ((16 + x1 : Int32).toNatClampNeg) (-1) = g9 at hP hO ⊢
      try dsimp only at hP hO
      refine r_goto ?_
      refine r_aload rfl ?_
      refine r_getr (q := b + 1) hB.1 hB.2.2.2.2.2.2.2.2.2.2.1 ?_
      refine r_int ?_
      refine r_iload rfl ?_
      refine r_ast (y := (f_reg ((14 + x1 : Int32).toNatClampNeg)) / 2) (env' := [(b + 1, (upd g9 4 ((f_reg ((14 + x1 : Int32).toNatClampNeg)) / 2))), (b + 3, f_memory)]) 0 4 (hn _ _) rfl hB.2.1 (by decide) rfl (lt_in 4 20 rfl rfl) (lt_cl 4 rfl) rfl rfl ?_
      refine r_aload rfl ?_
      refine r_getr (q := b + 1) hB.1 hB.2.2.2.2.2.2.2.2.2.2.1 ?_
      refine r_int ?_
      refine r_aload rfl ?_
      refine r_getr (q := b + 3) hB.1 hB.2.2.2.2.2.2.2.2.2.2.2.2.1 ?_
      refine r_iload rfl ?_
      refine r_int ?_
      refine r_isub ?_
      have h10 := hO
      refine r_ald (x := f_memory ((((f_reg ((14 + x1 : Int32).toNatClampNeg)) / 2) - 1 : Int32).toNatClampNeg)) 1 ((((f_reg ((14 + x1 : Int32).toNatClampNeg)) / 2) - 1 : Int32).toNatClampNeg) (hn _ _) rfl hB.2.2.2.1 (by decide) rfl h10 rfl rfl ?_
      refine r_ast (y := f_memory ((((f_reg ((14 + x1 : Int32).toNatClampNeg)) / 2) - 1 : Int32).toNatClampNeg)) (env' := [(b + 1, (upd (upd g9 4 ((f_reg ((14 + x1 : Int32).toNatClampNeg)) / 2)) 3 (f_memory ((((f_reg ((14 + x1 : Int32).toNatClampNeg)) / 2) - 1 : Int32).toNatClampNeg)))), (b + 3, f_memory)]) 0 3 (hn _ _) rfl hB.2.1 (by decide) rfl (lt_in 3 20 rfl rfl) (lt_cl 3 rfl) rfl rfl ?_
      refine r_aload rfl ?_
      refine r_getr (q := b + 1) hB.1 hB.2.2.2.2.2.2.2.2.2.2.1 ?_
      refine r_int ?_
      refine r_iload rfl ?_
      refine r_ast (y := x1) (env' := [(b + 1, (upd (upd (upd g9 4 ((f_reg ((14 + x1 : Int32).toNatClampNeg)) / 2)) 3 (f_memory ((((f_reg ((14 + x1 : Int32).toNatClampNeg)) / 2) - 1 : Int32).toNatClampNeg))) 5 x1)), (b + 3, f_memory)]) 0 5 (hn _ _) rfl hB.2.1 (by decide) rfl (lt_in 5 20 rfl rfl) (lt_cl 5 rfl) rfl rfl ?_
      refine r_aload rfl ?_
      refine r_getr (q := b + 1) hB.1 hB.2.2.2.2.2.2.2.2.2.2.1 ?_
      refine r_int ?_
      refine r_int ?_
      refine r_ast (y := 0) (env' := [(b + 1, (upd (upd (upd (upd g9 4 ((f_reg ((14 + x1 : Int32).toNatClampNeg)) / 2)) 3 (f_memory ((((f_reg ((14 + x1 : Int32).toNatClampNeg)) / 2) - 1 : Int32).toNatClampNeg))) 5 x1) 6 0)), (b + 3, f_memory)]) 0 6 (hn _ _) rfl hB.2.1 (by decide) rfl (lt_in 6 20 rfl rfl) (lt_cl 6 rfl) rfl rfl ?_
      refine r_aload rfl ?_
      have k12 := fun (Q' : Option Int32 → mMH → Prop) hq => tX3_clear (d := d + 0) (B := B) (v := mE v [(b + 1, (upd (upd (upd (upd g9 4 ((f_reg ((14 + x1 : Int32).toNatClampNeg)) / 2)) 3 (f_memory ((((f_reg ((14 + x1 : Int32).toNatClampNeg)) / 2) - 1 : Int32).toNatClampNeg))) 5 x1) 6 0)), (b + 3, f_memory)]) (w := w) (Q := Q') hB (by omega) (upd (upd (upd (upd g9 4 ((f_reg ((14 + x1 : Int32).toNatClampNeg)) / 2)) 3 (f_memory ((((f_reg ((14 + x1 : Int32).toNatClampNeg)) / 2) - 1 : Int32).toNatClampNeg))) 5 x1) 6 0) hq
      generalize hg_u11 : FX3_clear (upd (upd (upd (upd g9 4 ((f_reg ((14 + x1 : Int32).toNatClampNeg)) / 2)) 3 (f_memory ((((f_reg ((14 + x1 : Int32).toNatClampNeg)) / 2) - 1 : Int32).toNatClampNeg))) 5 x1) 6 0) = u11 at k12 hP
      try dsimp only at hP
      refine r_callV (st := []) (o := b) (as := []) (envc := [(b + 1, (upd (upd (upd (upd g9 4 ((f_reg ((14 + x1 : Int32).toNatClampNeg)) / 2)) 3 (f_memory ((((f_reg ((14 + x1 : Int32).toNatClampNeg)) / 2) - 1 : Int32).toNatClampNeg))) 5 x1) 6 0))]) (envc' := [(b + 1, u11.2)]) (env' := [(b + 1, u11.2), (b + 3, f_memory)]) (rv := none) [0] (hn _ _) rfl rfl (Nat.le_of_ble_eq_true rfl) hB.1 rfl rfl rfl k12 ?_
      show RB _ _ _ _ _ [] _ _
      refine r_int ?_
      exact r_ret rfl rfl (hPQ 1 u11.2 hP)
    · rw [if_neg c5] at hP
      have hO := hO.2 c5
      refine r_aload rfl ?_
      refine r_getr (q := b + 1) hB.1 hB.2.2.2.2.2.2.2.2.2.2.1 ?_
      refine r_int ?_
      refine r_iload rfl ?_
      refine r_iadd ?_
      refine r_aload rfl ?_
      refine r_getr (q := b + 3) hB.1 hB.2.2.2.2.2.2.2.2.2.2.2.2.1 ?_
      refine r_iload rfl ?_
      refine r_int ?_
      refine r_isub ?_
      obtain ⟨h13, hO⟩ := hO
      refine r_ald (x := f_memory ((((f_reg ((14 + x1 : Int32).toNatClampNeg)) / 2) - 2 : Int32).toNatClampNeg)) 1 ((((f_reg ((14 + x1 : Int32).toNatClampNeg)) / 2) - 2 : Int32).toNatClampNeg) (hn _ _) rfl hB.2.2.2.1 (by decide) rfl h13 rfl rfl ?_
      obtain ⟨h14, hO⟩ := hO
      refine r_ast (y := f_memory ((((f_reg ((14 + x1 : Int32).toNatClampNeg)) / 2) - 2 : Int32).toNatClampNeg)) (env' := [(b + 1, (upd f_reg ((14 + x1 : Int32).toNatClampNeg) (f_memory ((((f_reg ((14 + x1 : Int32).toNatClampNeg)) / 2) - 2 : Int32).toNatClampNeg)))), (b + 3, f_memory)]) 0 ((14 + x1 : Int32).toNatClampNeg) (hn _ _) rfl hB.2.1 (by decide) rfl h14 rfl rfl rfl ?_
      generalize hg_g15 : upd f_reg ((14 + x1 : Int32).toNatClampNeg) (f_memory ((((f_reg ((14 + x1 : Int32).toNatClampNeg)) / 2) - 2 : Int32).toNatClampNeg)) = g15 at hP hO ⊢
      try dsimp only at hP hO
      refine r_fall ?_
      refine r_aload rfl ?_
      refine r_getr (q := b + 1) hB.1 hB.2.2.2.2.2.2.2.2.2.2.1 ?_
      refine r_int ?_
      refine r_iload rfl ?_
      refine r_ast (y := (f_reg ((14 + x1 : Int32).toNatClampNeg)) / 2) (env' := [(b + 1, (upd g15 4 ((f_reg ((14 + x1 : Int32).toNatClampNeg)) / 2))), (b + 3, f_memory)]) 0 4 (hn _ _) rfl hB.2.1 (by decide) rfl (lt_in 4 20 rfl rfl) (lt_cl 4 rfl) rfl rfl ?_
      refine r_aload rfl ?_
      refine r_getr (q := b + 1) hB.1 hB.2.2.2.2.2.2.2.2.2.2.1 ?_
      refine r_int ?_
      refine r_aload rfl ?_
      refine r_getr (q := b + 3) hB.1 hB.2.2.2.2.2.2.2.2.2.2.2.2.1 ?_
      refine r_iload rfl ?_
      refine r_int ?_
      refine r_isub ?_
      have h16 := hO
      refine r_ald (x := f_memory ((((f_reg ((14 + x1 : Int32).toNatClampNeg)) / 2) - 1 : Int32).toNatClampNeg)) 1 ((((f_reg ((14 + x1 : Int32).toNatClampNeg)) / 2) - 1 : Int32).toNatClampNeg) (hn _ _) rfl hB.2.2.2.1 (by decide) rfl h16 rfl rfl ?_
      refine r_ast (y := f_memory ((((f_reg ((14 + x1 : Int32).toNatClampNeg)) / 2) - 1 : Int32).toNatClampNeg)) (env' := [(b + 1, (upd (upd g15 4 ((f_reg ((14 + x1 : Int32).toNatClampNeg)) / 2)) 3 (f_memory ((((f_reg ((14 + x1 : Int32).toNatClampNeg)) / 2) - 1 : Int32).toNatClampNeg)))), (b + 3, f_memory)]) 0 3 (hn _ _) rfl hB.2.1 (by decide) rfl (lt_in 3 20 rfl rfl) (lt_cl 3 rfl) rfl rfl ?_
      refine r_aload rfl ?_
      refine r_getr (q := b + 1) hB.1 hB.2.2.2.2.2.2.2.2.2.2.1 ?_
      refine r_int ?_
      refine r_iload rfl ?_
      refine r_ast (y := x1) (env' := [(b + 1, (upd (upd (upd g15 4 ((f_reg ((14 + x1 : Int32).toNatClampNeg)) / 2)) 3 (f_memory ((((f_reg ((14 + x1 : Int32).toNatClampNeg)) / 2) - 1 : Int32).toNatClampNeg))) 5 x1)), (b + 3, f_memory)]) 0 5 (hn _ _) rfl hB.2.1 (by decide) rfl (lt_in 5 20 rfl rfl) (lt_cl 5 rfl) rfl rfl ?_
      refine r_aload rfl ?_
      refine r_getr (q := b + 1) hB.1 hB.2.2.2.2.2.2.2.2.2.2.1 ?_
      refine r_int ?_
      refine r_int ?_
      refine r_ast (y := 0) (env' := [(b + 1, (upd (upd (upd (upd g15 4 ((f_reg ((14 + x1 : Int32).toNatClampNeg)) / 2)) 3 (f_memory ((((f_reg ((14 + x1 : Int32).toNatClampNeg)) / 2) - 1 : Int32).toNatClampNeg))) 5 x1) 6 0)), (b + 3, f_memory)]) 0 6 (hn _ _) rfl hB.2.1 (by decide) rfl (lt_in 6 20 rfl rfl) (lt_cl 6 rfl) rfl rfl ?_
      refine r_aload rfl ?_
      have k18 := fun (Q' : Option Int32 → mMH → Prop) hq => tX3_clear (d := d + 0) (B := B) (v := mE v [(b + 1, (upd (upd (upd (upd g15 4 ((f_reg ((14 + x1 : Int32).toNatClampNeg)) / 2)) 3 (f_memory ((((f_reg ((14 + x1 : Int32).toNatClampNeg)) / 2) - 1 : Int32).toNatClampNeg))) 5 x1) 6 0)), (b + 3, f_memory)]) (w := w) (Q := Q') hB (by omega) (upd (upd (upd (upd g15 4 ((f_reg ((14 + x1 : Int32).toNatClampNeg)) / 2)) 3 (f_memory ((((f_reg ((14 + x1 : Int32).toNatClampNeg)) / 2) - 1 : Int32).toNatClampNeg))) 5 x1) 6 0) hq
      generalize hg_u17 : FX3_clear (upd (upd (upd (upd g15 4 ((f_reg ((14 + x1 : Int32).toNatClampNeg)) / 2)) 3 (f_memory ((((f_reg ((14 + x1 : Int32).toNatClampNeg)) / 2) - 1 : Int32).toNatClampNeg))) 5 x1) 6 0) = u17 at k18 hP
      try dsimp only at hP
      refine r_callV (st := []) (o := b) (as := []) (envc := [(b + 1, (upd (upd (upd (upd g15 4 ((f_reg ((14 + x1 : Int32).toNatClampNeg)) / 2)) 3 (f_memory ((((f_reg ((14 + x1 : Int32).toNatClampNeg)) / 2) - 1 : Int32).toNatClampNeg))) 5 x1) 6 0))]) (envc' := [(b + 1, u17.2)]) (env' := [(b + 1, u17.2), (b + 3, f_memory)]) (rv := none) [0] (hn _ _) rfl rfl (Nat.le_of_ble_eq_true rfl) hB.1 rfl rfl rfl k18 ?_
      show RB _ _ _ _ _ [] _ _
      refine r_int ?_
      exact r_ret rfl rfl (hPQ 1 u17.2 hP)

def FX3_chooseWhoRuns_b1 (f_reg : mF) (f_memory : mF) : Int32 × mF :=
  let u3 := FX3_isRunning f_reg; if u3 = 0 then (if (f_reg 14) = (-1) then (if (f_reg 11) = (-1) then (if (f_reg 15) = (-1) then ((1, f_reg)) else (let u8 := FX3_take 1 f_reg f_memory; if u8.1 = 0 then ((0, u8.2)) else ((1, u8.2)))) else ((1, (upd (va_cpy f_reg f_reg 7 0 7) 11 (-1))))) else (let u12 := FX3_take 0 f_reg f_memory; (u12.1, u12.2))) else ((1, f_reg))
def OX3_chooseWhoRuns_b1 (f_reg : mF) (f_memory : mF) : Prop :=
  (let u3 := FX3_isRunning f_reg; (u3 = 0 → (((f_reg 14) = (-1) → (((f_reg 11) = (-1) → (((f_reg 15) = (-1) → True) ∧ (¬ ((f_reg 15) = (-1)) → (OX3_take 1 f_reg f_memory)))) ∧ (¬ ((f_reg 11) = (-1)) → True))) ∧ (¬ ((f_reg 14) = (-1)) → (OX3_take 0 f_reg f_memory ∧ (let u12 := FX3_take 0 f_reg f_memory; u12.1 = 0 ∨ u12.1 = 1))))) ∧ (¬ (u3 = 0) → True))
set_option maxRecDepth 20000 in
theorem tX3_chooseWhoRuns_b1 {d : Nat} {B : mB} {v : mV} {w : mX} {Q : Option Int32 → mMH → Prop} {b g : Nat} (hB : isMach B b g) (hd : g + 2 ≤ b) {P : Int32 × mF → Prop} {f_memory : mF} (hPQ : ∀ (q : Int32) (q0 : mF), P (q, q0) → Q (some q) (mH B (mE v [(b + 1, q0), (b + 3, f_memory)]) w)) : ∀ (f_reg : mF), OX3_chooseWhoRuns_b1 f_reg f_memory → P (FX3_chooseWhoRuns_b1 f_reg f_memory) → RJ (d + 2) kX3_chooseWhoRuns (some .boolean) 1 [some (.ref b)] [] (mH B (mE v [(b + 1, f_reg), (b + 3, f_memory)]) w) Q := by
  intro f_reg hO hP
  rw [FX3_chooseWhoRuns_b1] at hP
  rw [OX3_chooseWhoRuns_b1] at hO
  have hn : ∀ (f_reg : mF) (f_memory : mF), mNd [(b + 1, f_reg), (b + 3, f_memory)] := fun _ _ => by
    show List.Nodup _
    simp only [List.map_cons, List.map_nil, List.nodup_cons, List.mem_cons, List.not_mem_nil, or_false, not_or, not_false_eq_true, List.nodup_nil, and_true]
    omega
  show RB _ _ _ _ [some (.ref b)] [] _ _
  refine r_aload rfl ?_
  have k15 := fun (Q' : Option Int32 → mMH → Prop) hq => tX3_isRunning (d := d + 1) (B := B) (v := mE v [(b + 1, f_reg), (b + 3, f_memory)]) (w := w) (Q := Q') hB (by omega) f_reg hq
  generalize hg_u3 : FX3_isRunning f_reg = u3 at k15 hP hO
  try dsimp only at hP hO
  refine r_callV (st := []) (o := b) (as := []) (envc := [(b + 1, f_reg)]) (envc' := [(b + 1, f_reg)]) (env' := [(b + 1, f_reg), (b + 3, f_memory)]) (rv := some u3) [0] (hn _ _) rfl rfl (Nat.le_of_ble_eq_true rfl) hB.1 rfl rfl rfl k15 ?_
  show RB _ _ _ _ _ [.int u3] _ _
  refine r_if (fun c4 : u3 = 0 => ?_) (fun c4 : ¬ (u3 = 0) => ?_)
  · rw [if_pos c4] at hP
    have hO := hO.1 c4
    refine r_aload rfl ?_
    refine r_getr (q := b + 1) hB.1 hB.2.2.2.2.2.2.2.2.2.2.1 ?_
    refine r_int ?_
    refine r_ald (x := f_reg 14) 0 14 (hn _ _) rfl hB.2.1 (by decide) rfl (lt_in 14 20 rfl rfl) (lt_cl 14 rfl) rfl ?_
    refine r_int ?_
    refine r_icmp (fun c5 : (f_reg 14) = (-1) => ?_) (fun c5 : ¬ ((f_reg 14) = (-1)) => ?_)
    · rw [if_pos c5] at hP
      have hO := hO.1 c5
      refine r_aload rfl ?_
      refine r_getr (q := b + 1) hB.1 hB.2.2.2.2.2.2.2.2.2.2.1 ?_
      refine r_int ?_
      refine r_ald (x := f_reg 11) 0 11 (hn _ _) rfl hB.2.1 (by decide) rfl (lt_in 11 20 rfl rfl) (lt_cl 11 rfl) rfl ?_
      refine r_int ?_
      refine r_icmp (fun c6 : (f_reg 11) = (-1) => ?_) (fun c6 : ¬ ((f_reg 11) = (-1)) => ?_)
      · rw [if_pos c6] at hP
        have hO := hO.1 c6
        refine r_aload rfl ?_
        refine r_getr (q := b + 1) hB.1 hB.2.2.2.2.2.2.2.2.2.2.1 ?_
        refine r_int ?_
        refine r_ald (x := f_reg 15) 0 15 (hn _ _) rfl hB.2.1 (by decide) rfl (lt_in 15 20 rfl rfl) (lt_cl 15 rfl) rfl ?_
        refine r_int ?_
        refine r_icmp (fun c7 : (f_reg 15) = (-1) => ?_) (fun c7 : ¬ ((f_reg 15) = (-1)) => ?_)
        · rw [if_pos c7] at hP
          have hO := hO.1 c7
          refine r_int ?_
          refine r_goto ?_
          exact r_ret rfl rfl (hPQ 1 f_reg hP)
        · rw [if_neg c7] at hP
          have hO := hO.2 c7
          refine r_aload rfl ?_
          refine r_int ?_
          have h9 := hO
          have k11 := fun (Q' : Option Int32 → mMH → Prop) hq => tX3_take (d := d + 0) (B := B) (v := mE v [(b + 1, f_reg), (b + 3, f_memory)]) (w := w) (Q := Q') hB (by omega) 1 f_reg f_memory h9 hq
          generalize hg_u8 : FX3_take 1 f_reg f_memory = u8 at k11 hP
          try dsimp only at hP
          refine r_callV (st := []) (o := b) (as := [.int 1]) (envc := [(b + 1, f_reg), (b + 3, f_memory)]) (envc' := [(b + 1, u8.2), (b + 3, f_memory)]) (env' := [(b + 1, u8.2), (b + 3, f_memory)]) (rv := some u8.1) [0, 1] (hn _ _) rfl rfl (Nat.le_of_ble_eq_true rfl) hB.1 rfl rfl rfl k11 ?_
          show RB _ _ _ _ _ [.int u8.1] _ _
          refine r_if (fun c10 : u8.1 = 0 => ?_) (fun c10 : ¬ (u8.1 = 0) => ?_)
          · rw [if_pos c10] at hP
            refine r_int ?_
            refine r_fall ?_
            exact r_ret rfl rfl (hPQ 0 u8.2 hP)
          · rw [if_neg c10] at hP
            refine r_fall ?_
            refine r_int ?_
            refine r_goto ?_
            exact r_ret rfl rfl (hPQ 1 u8.2 hP)
      · rw [if_neg c6] at hP
        have hO := hO.2 c6
        refine r_aload rfl ?_
        refine r_getr (q := b + 1) hB.1 hB.2.2.2.2.2.2.2.2.2.2.1 ?_
        refine r_int ?_
        refine r_aload rfl ?_
        refine r_getr (q := b + 1) hB.1 hB.2.2.2.2.2.2.2.2.2.2.1 ?_
        refine r_int ?_
        refine r_int ?_
        refine r_copy (env' := [(b + 1, (va_cpy f_reg f_reg 7 0 7)), (b + 3, f_memory)]) 0 0 (hn _ _) rfl rfl hB.2.1 hB.2.1 (by decide) (by decide) (by decide) (by decide) (by decide) (by decide) (by decide) (fun _ _ => rfl) (Nat.le_of_ble_eq_true rfl) rfl ?_
        refine r_aload rfl ?_
        refine r_getr (q := b + 1) hB.1 hB.2.2.2.2.2.2.2.2.2.2.1 ?_
        refine r_int ?_
        refine r_int ?_
        refine r_ast (y := (-1)) (env' := [(b + 1, (upd (va_cpy f_reg f_reg 7 0 7) 11 (-1))), (b + 3, f_memory)]) 0 11 (hn _ _) rfl hB.2.1 (by decide) rfl (lt_in 11 20 rfl rfl) (lt_cl 11 rfl) rfl rfl ?_
        refine r_int ?_
        exact r_ret rfl rfl (hPQ 1 (upd (va_cpy f_reg f_reg 7 0 7) 11 (-1)) hP)
    · rw [if_neg c5] at hP
      have hO := hO.2 c5
      refine r_aload rfl ?_
      refine r_int ?_
      obtain ⟨h13, hO⟩ := hO
      have k14 := fun (Q' : Option Int32 → mMH → Prop) hq => tX3_take (d := d + 0) (B := B) (v := mE v [(b + 1, f_reg), (b + 3, f_memory)]) (w := w) (Q := Q') hB (by omega) 0 f_reg f_memory h13 hq
      generalize hg_u12 : FX3_take 0 f_reg f_memory = u12 at k14 hP hO
      try dsimp only at hP hO
      refine r_callV (st := []) (o := b) (as := [.int 0]) (envc := [(b + 1, f_reg), (b + 3, f_memory)]) (envc' := [(b + 1, u12.2), (b + 3, f_memory)]) (env' := [(b + 1, u12.2), (b + 3, f_memory)]) (rv := some u12.1) [0, 1] (hn _ _) rfl rfl (Nat.le_of_ble_eq_true rfl) hB.1 rfl rfl rfl k14 ?_
      show RB _ _ _ _ _ [.int u12.1] _ _
      exact r_ret rfl (nz_ok hO) (hPQ u12.1 u12.2 hP)
  · rw [if_neg c4] at hP
    have hO := hO.2 c4
    refine r_int ?_
    exact r_ret rfl rfl (hPQ 1 f_reg hP)
def FX3_chooseWhoRuns (f_reg : mF) (f_memory : mF) : Int32 × mF :=
  let u1 := FX3_isRunning f_reg; if u1 = 0 then (FX3_chooseWhoRuns_b1 f_reg f_memory) else (if (f_reg 5) = 1 then (if (f_reg 14) = (-1) then (FX3_chooseWhoRuns_b1 f_reg f_memory) else (FX3_chooseWhoRuns_b1 (upd (va_cpy f_reg f_reg 0 7 7) 4 (-1)) f_memory)) else (FX3_chooseWhoRuns_b1 f_reg f_memory))
def OX3_chooseWhoRuns (f_reg : mF) (f_memory : mF) : Prop :=
  (let u1 := FX3_isRunning f_reg; (u1 = 0 → (OX3_chooseWhoRuns_b1 f_reg f_memory)) ∧ (¬ (u1 = 0) → (((f_reg 5) = 1 → (((f_reg 14) = (-1) → (OX3_chooseWhoRuns_b1 f_reg f_memory)) ∧ (¬ ((f_reg 14) = (-1)) → (OX3_chooseWhoRuns_b1 (upd (va_cpy f_reg f_reg 0 7 7) 4 (-1)) f_memory)))) ∧ (¬ ((f_reg 5) = 1) → (OX3_chooseWhoRuns_b1 f_reg f_memory)))))
set_option maxRecDepth 20000 in
theorem tX3_chooseWhoRuns {d : Nat} {B : mB} {v : mV} {w : mX} {Q : Option Int32 → mMH → Prop} {b g : Nat} (hB : isMach B b g) (hd : g + 2 ≤ b) (f_reg : mF) (f_memory : mF) (hO : OX3_chooseWhoRuns f_reg f_memory) (hQ : Q (some ((FX3_chooseWhoRuns f_reg f_memory).1)) (mH B (mE v [(b + 1, (FX3_chooseWhoRuns f_reg f_memory).2), (b + 3, f_memory)]) w)) : CQ (d + 3) 30 [.ref b] (mH B (mE v [(b + 1, f_reg), (b + 3, f_memory)]) w) Q := by
  have hn : ∀ (f_reg : mF) (f_memory : mF), mNd [(b + 1, f_reg), (b + 3, f_memory)] := fun _ _ => by
    show List.Nodup _
    simp only [List.map_cons, List.map_nil, List.nodup_cons, List.mem_cons, List.not_mem_nil, or_false, not_or, not_false_eq_true, List.nodup_nil, and_true]
    omega
  obtain ⟨P, hPQ, hP⟩ : ∃ P : Int32 × mF → Prop, (∀ (q : Int32) (q0 : mF), P (q, q0) → Q (some q) (mH B (mE v [(b + 1, q0), (b + 3, f_memory)]) w)) ∧ P (FX3_chooseWhoRuns f_reg f_memory) := ⟨fun res => Q (some res.1) (mH B (mE v [(b + 1, res.2), (b + 3, f_memory)]) w), fun _ _ h => h, hQ⟩
  refine r_begin mt_30 (by intro a ha; simp only [List.mem_cons, List.not_mem_nil, or_false] at ha; rcases ha with rfl <;> rfl) (Nat.le_of_ble_eq_true rfl) ?_
  rw [FX3_chooseWhoRuns] at hP
  rw [OX3_chooseWhoRuns] at hO
  show RB _ _ _ _ [some (.ref b)] [] _ _
  refine r_aload rfl ?_
  have k18 := fun (Q' : Option Int32 → mMH → Prop) hq => tX3_isRunning (d := d + 1) (B := B) (v := mE v [(b + 1, f_reg), (b + 3, f_memory)]) (w := w) (Q := Q') hB (by omega) f_reg hq
  generalize hg_u1 : FX3_isRunning f_reg = u1 at k18 hP hO
  try dsimp only at hP hO
  refine r_callV (st := []) (o := b) (as := []) (envc := [(b + 1, f_reg)]) (envc' := [(b + 1, f_reg)]) (env' := [(b + 1, f_reg), (b + 3, f_memory)]) (rv := some u1) [0] (hn _ _) rfl rfl (Nat.le_of_ble_eq_true rfl) hB.1 rfl rfl rfl k18 ?_
  show RB _ _ _ _ _ [.int u1] _ _
  refine r_if (fun c2 : u1 = 0 => ?_) (fun c2 : ¬ (u1 = 0) => ?_)
  · rw [if_pos c2] at hP
    have hO := hO.1 c2
    exact tX3_chooseWhoRuns_b1 hB hd hPQ f_reg hO hP
  · rw [if_neg c2] at hP
    have hO := hO.2 c2
    refine r_aload rfl ?_
    refine r_getr (q := b + 1) hB.1 hB.2.2.2.2.2.2.2.2.2.2.1 ?_
    refine r_int ?_
    refine r_ald (x := f_reg 5) 0 5 (hn _ _) rfl hB.2.1 (by decide) rfl (lt_in 5 20 rfl rfl) (lt_cl 5 rfl) rfl ?_
    refine r_int ?_
    refine r_icmp1 (fun c16 : (f_reg 5) = 1 => ?_) (fun c16 : ¬ ((f_reg 5) = 1) => ?_)
    · rw [if_pos c16] at hP
      have hO := hO.1 c16
      refine r_aload rfl ?_
      refine r_getr (q := b + 1) hB.1 hB.2.2.2.2.2.2.2.2.2.2.1 ?_
      refine r_int ?_
      refine r_ald (x := f_reg 14) 0 14 (hn _ _) rfl hB.2.1 (by decide) rfl (lt_in 14 20 rfl rfl) (lt_cl 14 rfl) rfl ?_
      refine r_int ?_
      refine r_icmp (fun c17 : (f_reg 14) = (-1) => ?_) (fun c17 : ¬ ((f_reg 14) = (-1)) => ?_)
      · rw [if_pos c17] at hP
        have hO := hO.1 c17
        exact tX3_chooseWhoRuns_b1 hB hd hPQ f_reg hO hP
      · rw [if_neg c17] at hP
        have hO := hO.2 c17
        refine r_aload rfl ?_
        refine r_getr (q := b + 1) hB.1 hB.2.2.2.2.2.2.2.2.2.2.1 ?_
        refine r_int ?_
        refine r_aload rfl ?_
        refine r_getr (q := b + 1) hB.1 hB.2.2.2.2.2.2.2.2.2.2.1 ?_
        refine r_int ?_
        refine r_int ?_
        refine r_copy (env' := [(b + 1, (va_cpy f_reg f_reg 0 7 7)), (b + 3, f_memory)]) 0 0 (hn _ _) rfl rfl hB.2.1 hB.2.1 (by decide) (by decide) (by decide) (by decide) (by decide) (by decide) (by decide) (fun _ _ => rfl) (Nat.le_of_ble_eq_true rfl) rfl ?_
        refine r_aload rfl ?_
        refine r_getr (q := b + 1) hB.1 hB.2.2.2.2.2.2.2.2.2.2.1 ?_
        refine r_int ?_
        refine r_int ?_
        refine r_ast (y := (-1)) (env' := [(b + 1, (upd (va_cpy f_reg f_reg 0 7 7) 4 (-1))), (b + 3, f_memory)]) 0 4 (hn _ _) rfl hB.2.1 (by decide) rfl (lt_in 4 20 rfl rfl) (lt_cl 4 rfl) rfl rfl ?_
        refine r_fall ?_
        exact tX3_chooseWhoRuns_b1 hB hd hPQ (upd (va_cpy f_reg f_reg 0 7 7) 4 (-1)) hO hP
    · rw [if_neg c16] at hP
      have hO := hO.2 c16
      exact tX3_chooseWhoRuns_b1 hB hd hPQ f_reg hO hP

def FX3_endWait (x1 : Int32) (f_reg : mF) (f_memory : mF) (f_timers : mF) (f_timers_process : mF) (f_timers_time : mF) (f_timers_isBy : mF) : Int32 × mF × mF × mF × mF × mF × mF :=
  if (f_timers_isBy ((x1 : Int32).toNatClampNeg)) = 0 then (let u4 := FX6_remove x1 f_timers f_timers_process f_timers_time f_timers_isBy; let u6 := FX3_schedule (f_timers_process ((x1 : Int32).toNatClampNeg)) f_reg f_memory; (0, u6.2.1, u6.2.2, u4.2.1, u4.2.2.1, u4.2.2.2.1, u4.2.2.2.2)) else (let g11 := upd f_memory ((((f_timers_process ((x1 : Int32).toNatClampNeg)) / 2) - 3 : Int32).toNatClampNeg) (-4); let g13 := upd g11 ((((f_timers_process ((x1 : Int32).toNatClampNeg)) / 2) - 4 : Int32).toNatClampNeg) (-6); let g15 := upd g13 ((((f_timers_process ((x1 : Int32).toNatClampNeg)) / 2) - 5 : Int32).toNatClampNeg) (f_reg 18); let u16 := FX6_remove x1 f_timers f_timers_process f_timers_time f_timers_isBy; let u18 := FX3_schedule (f_timers_process ((x1 : Int32).toNatClampNeg)) f_reg g15; (0, u18.2.1, u18.2.2, u16.2.1, u16.2.2.1, u16.2.2.2.1, u16.2.2.2.2))
def OX3_endWait (x1 : Int32) (f_reg : mF) (f_memory : mF) (f_timers : mF) (f_timers_process : mF) (f_timers_time : mF) (f_timers_isBy : mF) : Prop :=
  vp_in x1 12 ∧ (vp_in x1 12 ∧ (((f_timers_isBy ((x1 : Int32).toNatClampNeg)) = 0 → (OX6_remove x1 f_timers f_timers_process f_timers_time f_timers_isBy ∧ (let u4 := FX6_remove x1 f_timers f_timers_process f_timers_time f_timers_isBy; OX3_schedule (f_timers_process ((x1 : Int32).toNatClampNeg)) f_reg f_memory))) ∧ (¬ ((f_timers_isBy ((x1 : Int32).toNatClampNeg)) = 0) → (vp_in (((f_timers_process ((x1 : Int32).toNatClampNeg)) / 2) - 3) 96 ∧ (let g11 := upd f_memory ((((f_timers_process ((x1 : Int32).toNatClampNeg)) / 2) - 3 : Int32).toNatClampNeg) (-4); vp_in (((f_timers_process ((x1 : Int32).toNatClampNeg)) / 2) - 4) 96 ∧ (let g13 := upd g11 ((((f_timers_process ((x1 : Int32).toNatClampNeg)) / 2) - 4 : Int32).toNatClampNeg) (-6); vp_in (((f_timers_process ((x1 : Int32).toNatClampNeg)) / 2) - 5) 96 ∧ (let g15 := upd g13 ((((f_timers_process ((x1 : Int32).toNatClampNeg)) / 2) - 5 : Int32).toNatClampNeg) (f_reg 18); OX6_remove x1 f_timers f_timers_process f_timers_time f_timers_isBy ∧ (let u16 := FX6_remove x1 f_timers f_timers_process f_timers_time f_timers_isBy; OX3_schedule (f_timers_process ((x1 : Int32).toNatClampNeg)) f_reg g15))))))))
set_option maxRecDepth 20000 in
theorem tX3_endWait {d : Nat} {B : mB} {v : mV} {w : mX} {Q : Option Int32 → mMH → Prop} {b g : Nat} (hB : isMach B b g) (hd : g + 2 ≤ b) (x1 : Int32) (f_reg : mF) (f_memory : mF) (f_timers : mF) (f_timers_process : mF) (f_timers_time : mF) (f_timers_isBy : mF) (hO : OX3_endWait x1 f_reg f_memory f_timers f_timers_process f_timers_time f_timers_isBy) (hQ : Q (none) (mH B (mE v [(b + 1, (FX3_endWait x1 f_reg f_memory f_timers f_timers_process f_timers_time f_timers_isBy).2.1), (b + 3, (FX3_endWait x1 f_reg f_memory f_timers f_timers_process f_timers_time f_timers_isBy).2.2.1), (b + 4, (FX3_endWait x1 f_reg f_memory f_timers f_timers_process f_timers_time f_timers_isBy).2.2.2.1), (b + 4 + 1, (FX3_endWait x1 f_reg f_memory f_timers f_timers_process f_timers_time f_timers_isBy).2.2.2.2.1), (b + 4 + 2, (FX3_endWait x1 f_reg f_memory f_timers f_timers_process f_timers_time f_timers_isBy).2.2.2.2.2.1), (b + 4 + 3, (FX3_endWait x1 f_reg f_memory f_timers f_timers_process f_timers_time f_timers_isBy).2.2.2.2.2.2)]) w)) : CQ (d + 3) 33 [.ref b, .int x1] (mH B (mE v [(b + 1, f_reg), (b + 3, f_memory), (b + 4, f_timers), (b + 4 + 1, f_timers_process), (b + 4 + 2, f_timers_time), (b + 4 + 3, f_timers_isBy)]) w) Q := by
  have hn : ∀ (f_reg : mF) (f_memory : mF) (f_timers : mF) (f_timers_process : mF) (f_timers_time : mF) (f_timers_isBy : mF), mNd [(b + 1, f_reg), (b + 3, f_memory), (b + 4, f_timers), (b + 4 + 1, f_timers_process), (b + 4 + 2, f_timers_time), (b + 4 + 3, f_timers_isBy)] := fun _ _ _ _ _ _ => by
    show List.Nodup _
    simp only [List.map_cons, List.map_nil, List.nodup_cons, List.mem_cons, List.not_mem_nil, or_false, not_or, not_false_eq_true, List.nodup_nil, and_true]
    omega
  obtain ⟨P, hPQ, hP⟩ : ∃ P : Int32 × mF × mF × mF × mF × mF × mF → Prop, (∀ (q : Int32) (q0 : mF) (q1 : mF) (q2 : mF) (q3 : mF) (q4 : mF) (q5 : mF), P (q, q0, q1, q2, q3, q4, q5) → Q (none) (mH B (mE v [(b + 1, q0), (b + 3, q1), (b + 4, q2), (b + 4 + 1, q3), (b + 4 + 2, q4), (b + 4 + 3, q5)]) w)) ∧ P (FX3_endWait x1 f_reg f_memory f_timers f_timers_process f_timers_time f_timers_isBy) := ⟨fun res => Q (none) (mH B (mE v [(b + 1, res.2.1), (b + 3, res.2.2.1), (b + 4, res.2.2.2.1), (b + 4 + 1, res.2.2.2.2.1), (b + 4 + 2, res.2.2.2.2.2.1), (b + 4 + 3, res.2.2.2.2.2.2)]) w), fun _ _ _ _ _ _ _ h => h, hQ⟩
  refine r_begin mt_33 (by intro a ha; simp only [List.mem_cons, List.not_mem_nil, or_false] at ha; rcases ha with rfl | rfl <;> rfl) (Nat.le_of_ble_eq_true rfl) ?_
  rw [FX3_endWait] at hP
  rw [OX3_endWait] at hO
  show RB _ _ _ _ [some (.ref b), some (.int x1), none, none] [] _ _
  refine r_aload rfl ?_
  refine r_getr (q := b + 4) hB.1 hB.2.2.2.2.2.2.2.2.2.2.2.2.2.1 ?_
  refine r_getr (q := b + 4 + 1) hB.2.2.2.2.2.1.1 hB.2.2.2.2.2.1.2.2.2.2.1 ?_
  refine r_iload rfl ?_
  obtain ⟨h1, hO⟩ := hO
  refine r_ald (x := f_timers_process ((x1 : Int32).toNatClampNeg)) 3 ((x1 : Int32).toNatClampNeg) (hn _ _ _ _ _ _) rfl hB.2.2.2.2.2.1.2.1 (by decide) rfl h1 rfl rfl ?_
  refine r_istore (L' := [some (.ref b), some (.int x1), some (.int (f_timers_process ((x1 : Int32).toNatClampNeg))), none]) rfl rfl ?_
  refine r_iload rfl ?_
  refine r_int ?_
  refine r_idiv (by decide) ?_
  refine r_istore (L' := [some (.ref b), some (.int x1), some (.int (f_timers_process ((x1 : Int32).toNatClampNeg))), some (.int ((f_timers_process ((x1 : Int32).toNatClampNeg)) / 2))]) rfl rfl ?_
  refine r_aload rfl ?_
  refine r_getr (q := b + 4) hB.1 hB.2.2.2.2.2.2.2.2.2.2.2.2.2.1 ?_
  refine r_getr (q := b + 4 + 3) hB.2.2.2.2.2.1.1 hB.2.2.2.2.2.1.2.2.2.2.2.2 ?_
  refine r_iload rfl ?_
  obtain ⟨h2, hO⟩ := hO
  refine r_ald (x := f_timers_isBy ((x1 : Int32).toNatClampNeg)) 5 ((x1 : Int32).toNatClampNeg) (hn _ _ _ _ _ _) rfl hB.2.2.2.2.2.1.2.2.2.1 (by decide) (Or.inr rfl) h2 rfl rfl ?_
  refine r_if (fun c3 : (f_timers_isBy ((x1 : Int32).toNatClampNeg)) = 0 => ?_) (fun c3 : ¬ ((f_timers_isBy ((x1 : Int32).toNatClampNeg)) = 0) => ?_)
  · rw [if_pos c3] at hP
    have hO := hO.1 c3
    refine r_aload rfl ?_
    refine r_getr (q := b + 4) hB.1 hB.2.2.2.2.2.2.2.2.2.2.2.2.2.1 ?_
    refine r_iload rfl ?_
    obtain ⟨h5, hO⟩ := hO
    have k9 := fun (Q' : Option Int32 → mMH → Prop) hq => tX6_remove (d := d + 1) (B := B) (v := mE v [(b + 1, f_reg), (b + 3, f_memory), (b + 4, f_timers), (b + 4 + 1, f_timers_process), (b + 4 + 2, f_timers_time), (b + 4 + 3, f_timers_isBy)]) (w := w) (Q := Q') hB.2.2.2.2.2.1 x1 f_timers f_timers_process f_timers_time f_timers_isBy h5 hq
    generalize hg_u4 : FX6_remove x1 f_timers f_timers_process f_timers_time f_timers_isBy = u4 at k9 hP hO
    try dsimp only at hP hO
    refine r_callV (st := []) (o := b + 4) (as := [.int x1]) (envc := [(b + 4, f_timers), (b + 4 + 1, f_timers_process), (b + 4 + 2, f_timers_time), (b + 4 + 3, f_timers_isBy)]) (envc' := [(b + 4, u4.2.1), (b + 4 + 1, u4.2.2.1), (b + 4 + 2, u4.2.2.2.1), (b + 4 + 3, u4.2.2.2.2)]) (env' := [(b + 1, f_reg), (b + 3, f_memory), (b + 4, u4.2.1), (b + 4 + 1, u4.2.2.1), (b + 4 + 2, u4.2.2.2.1), (b + 4 + 3, u4.2.2.2.2)]) (rv := none) [2, 3, 4, 5] (hn _ _ _ _ _ _) rfl rfl (Nat.le_of_ble_eq_true rfl) hB.2.2.2.2.2.1.1 rfl rfl rfl k9 ?_
    show RB _ _ _ _ _ [] _ _
    refine r_aload rfl ?_
    refine r_iload rfl ?_
    have h7 := hO
    have k8 := fun (Q' : Option Int32 → mMH → Prop) hq => tX3_schedule (d := d + 0) (B := B) (v := mE v [(b + 1, f_reg), (b + 3, f_memory), (b + 4, u4.2.1), (b + 4 + 1, u4.2.2.1), (b + 4 + 2, u4.2.2.2.1), (b + 4 + 3, u4.2.2.2.2)]) (w := w) (Q := Q') hB (by omega) (f_timers_process ((x1 : Int32).toNatClampNeg)) f_reg f_memory h7 hq
    generalize hg_u6 : FX3_schedule (f_timers_process ((x1 : Int32).toNatClampNeg)) f_reg f_memory = u6 at k8 hP
    try dsimp only at hP
    refine r_callV (st := []) (o := b) (as := [.int (f_timers_process ((x1 : Int32).toNatClampNeg))]) (envc := [(b + 1, f_reg), (b + 3, f_memory)]) (envc' := [(b + 1, u6.2.1), (b + 3, u6.2.2)]) (env' := [(b + 1, u6.2.1), (b + 3, u6.2.2), (b + 4, u4.2.1), (b + 4 + 1, u4.2.2.1), (b + 4 + 2, u4.2.2.2.1), (b + 4 + 3, u4.2.2.2.2)]) (rv := none) [0, 1] (hn _ _ _ _ _ _) rfl rfl (Nat.le_of_ble_eq_true rfl) hB.1 rfl rfl rfl k8 ?_
    show RB _ _ _ _ _ [] _ _
    exact r_retv rfl (hPQ 0 u6.2.1 u6.2.2 u4.2.1 u4.2.2.1 u4.2.2.2.1 u4.2.2.2.2 hP)
  · rw [if_neg c3] at hP
    have hO := hO.2 c3
    refine r_aload rfl ?_
    refine r_getr (q := b + 3) hB.1 hB.2.2.2.2.2.2.2.2.2.2.2.2.1 ?_
    refine r_iload rfl ?_
    refine r_int ?_
    refine r_isub ?_
    refine r_int ?_
    obtain ⟨h10, hO⟩ := hO
    refine r_ast (y := (-4)) (env' := [(b + 1, f_reg), (b + 3, (upd f_memory ((((f_timers_process ((x1 : Int32).toNatClampNeg)) / 2) - 3 : Int32).toNatClampNeg) (-4))), (b + 4, f_timers), (b + 4 + 1, f_timers_process), (b + 4 + 2, f_timers_time), (b + 4 + 3, f_timers_isBy)]) 1 ((((f_timers_process ((x1 : Int32).toNatClampNeg)) / 2) - 3 : Int32).toNatClampNeg) (hn _ _ _ _ _ _) rfl hB.2.2.2.1 (by decide) rfl h10 rfl rfl rfl ?_
    generalize hg_g11 : upd f_memory ((((f_timers_process ((x1 : Int32).toNatClampNeg)) / 2) - 3 : Int32).toNatClampNeg) (-4) = g11 at hP hO ⊢
    try dsimp only at hP hO
    refine r_aload rfl ?_
    refine r_getr (q := b + 3) hB.1 hB.2.2.2.2.2.2.2.2.2.2.2.2.1 ?_
    refine r_iload rfl ?_
    refine r_int ?_
    refine r_isub ?_
    refine r_int ?_
    obtain ⟨h12, hO⟩ := hO
    refine r_ast (y := (-6)) (env' := [(b + 1, f_reg), (b + 3, (upd g11 ((((f_timers_process ((x1 : Int32).toNatClampNeg)) / 2) - 4 : Int32).toNatClampNeg) (-6))), (b + 4, f_timers), (b + 4 + 1, f_timers_process), (b + 4 + 2, f_timers_time), (b + 4 + 3, f_timers_isBy)]) 1 ((((f_timers_process ((x1 : Int32).toNatClampNeg)) / 2) - 4 : Int32).toNatClampNeg) (hn _ _ _ _ _ _) rfl hB.2.2.2.1 (by decide) rfl h12 rfl rfl rfl ?_
    generalize hg_g13 : upd g11 ((((f_timers_process ((x1 : Int32).toNatClampNeg)) / 2) - 4 : Int32).toNatClampNeg) (-6) = g13 at hP hO ⊢
    try dsimp only at hP hO
    refine r_aload rfl ?_
    refine r_getr (q := b + 3) hB.1 hB.2.2.2.2.2.2.2.2.2.2.2.2.1 ?_
    refine r_iload rfl ?_
    refine r_int ?_
    refine r_isub ?_
    refine r_aload rfl ?_
    refine r_getr (q := b + 1) hB.1 hB.2.2.2.2.2.2.2.2.2.2.1 ?_
    refine r_int ?_
    refine r_ald (x := f_reg 18) 0 18 (hn _ _ _ _ _ _) rfl hB.2.1 (by decide) rfl (lt_in 18 20 rfl rfl) (lt_cl 18 rfl) rfl ?_
    obtain ⟨h14, hO⟩ := hO
    refine r_ast (y := f_reg 18) (env' := [(b + 1, f_reg), (b + 3, (upd g13 ((((f_timers_process ((x1 : Int32).toNatClampNeg)) / 2) - 5 : Int32).toNatClampNeg) (f_reg 18))), (b + 4, f_timers), (b + 4 + 1, f_timers_process), (b + 4 + 2, f_timers_time), (b + 4 + 3, f_timers_isBy)]) 1 ((((f_timers_process ((x1 : Int32).toNatClampNeg)) / 2) - 5 : Int32).toNatClampNeg) (hn _ _ _ _ _ _) rfl hB.2.2.2.1 (by decide) rfl h14 rfl rfl rfl ?_
    generalize hg_g15 : upd g13 ((((f_timers_process ((x1 : Int32).toNatClampNeg)) / 2) - 5 : Int32).toNatClampNeg) (f_reg 18) = g15 at hP hO ⊢
    try dsimp only at hP hO
    refine r_fall ?_
    refine r_aload rfl ?_
    refine r_getr (q := b + 4) hB.1 hB.2.2.2.2.2.2.2.2.2.2.2.2.2.1 ?_
    refine r_iload rfl ?_
    obtain ⟨h17, hO⟩ := hO
    have k21 := fun (Q' : Option Int32 → mMH → Prop) hq => tX6_remove (d := d + 1) (B := B) (v := mE v [(b + 1, f_reg), (b + 3, g15), (b + 4, f_timers), (b + 4 + 1, f_timers_process), (b + 4 + 2, f_timers_time), (b + 4 + 3, f_timers_isBy)]) (w := w) (Q := Q') hB.2.2.2.2.2.1 x1 f_timers f_timers_process f_timers_time f_timers_isBy h17 hq
    generalize hg_u16 : FX6_remove x1 f_timers f_timers_process f_timers_time f_timers_isBy = u16 at k21 hP hO
    try dsimp only at hP hO
    refine r_callV (st := []) (o := b + 4) (as := [.int x1]) (envc := [(b + 4, f_timers), (b + 4 + 1, f_timers_process), (b + 4 + 2, f_timers_time), (b + 4 + 3, f_timers_isBy)]) (envc' := [(b + 4, u16.2.1), (b + 4 + 1, u16.2.2.1), (b + 4 + 2, u16.2.2.2.1), (b + 4 + 3, u16.2.2.2.2)]) (env' := [(b + 1, f_reg), (b + 3, g15), (b + 4, u16.2.1), (b + 4 + 1, u16.2.2.1), (b + 4 + 2, u16.2.2.2.1), (b + 4 + 3, u16.2.2.2.2)]) (rv := none) [2, 3, 4, 5] (hn _ _ _ _ _ _) rfl rfl (Nat.le_of_ble_eq_true rfl) hB.2.2.2.2.2.1.1 rfl rfl rfl k21 ?_
    show RB _ _ _ _ _ [] _ _
    refine r_aload rfl ?_
    refine r_iload rfl ?_
    have h19 := hO
    have k20 := fun (Q' : Option Int32 → mMH → Prop) hq => tX3_schedule (d := d + 0) (B := B) (v := mE v [(b + 1, f_reg), (b + 3, g15), (b + 4, u16.2.1), (b + 4 + 1, u16.2.2.1), (b + 4 + 2, u16.2.2.2.1), (b + 4 + 3, u16.2.2.2.2)]) (w := w) (Q := Q') hB (by omega) (f_timers_process ((x1 : Int32).toNatClampNeg)) f_reg g15 h19 hq
    generalize hg_u18 : FX3_schedule (f_timers_process ((x1 : Int32).toNatClampNeg)) f_reg g15 = u18 at k20 hP
    try dsimp only at hP
    refine r_callV (st := []) (o := b) (as := [.int (f_timers_process ((x1 : Int32).toNatClampNeg))]) (envc := [(b + 1, f_reg), (b + 3, g15)]) (envc' := [(b + 1, u18.2.1), (b + 3, u18.2.2)]) (env' := [(b + 1, u18.2.1), (b + 3, u18.2.2), (b + 4, u16.2.1), (b + 4 + 1, u16.2.2.1), (b + 4 + 2, u16.2.2.2.1), (b + 4 + 3, u16.2.2.2.2)]) (rv := none) [0, 1] (hn _ _ _ _ _ _) rfl rfl (Nat.le_of_ble_eq_true rfl) hB.1 rfl rfl rfl k20 ?_
    show RB _ _ _ _ _ [] _ _
    exact r_retv rfl (hPQ 0 u18.2.1 u18.2.2 u16.2.1 u16.2.2.1 u16.2.2.2.1 u16.2.2.2.2 hP)

def FX3_endWaits_b1 : Nat → Int32 → Int32 → mF → mF → mF → mF → mF → mF → mF × mF × mF × mF × mF × mF
  | 0, _, _, f_reg, f_memory, f_timers, f_timers_process, f_timers_time, f_timers_isBy => (f_reg, f_memory, f_timers, f_timers_process, f_timers_time, f_timers_isBy)
  | n + 1, y1, y2, f_reg, f_memory, f_timers, f_timers_process, f_timers_time, f_timers_isBy =>
    if y2 ≤ 0 then ((f_reg, f_memory, f_timers, f_timers_process, f_timers_time, f_timers_isBy)) else (let u3 := FX9_isAfter (f_reg 18) (f_timers_time ((y1 : Int32).toNatClampNeg)); if u3 = 0 then (FX3_endWaits_b1 n (y1 + 1) (y2 + (-1)) f_reg f_memory f_timers f_timers_process f_timers_time f_timers_isBy) else (let u5 := FX3_endWait y1 f_reg f_memory f_timers f_timers_process f_timers_time f_timers_isBy; FX3_endWaits_b1 n y1 (y2 + (-1)) u5.2.1 u5.2.2.1 u5.2.2.2.1 u5.2.2.2.2.1 u5.2.2.2.2.2.1 u5.2.2.2.2.2.2))
def OX3_endWaits_b1 : Nat → Int32 → Int32 → mF → mF → mF → mF → mF → mF → Prop
  | 0, _, _, _, _, _, _, _, _ => False
  | n + 1, y1, y2, f_reg, f_memory, f_timers, f_timers_process, f_timers_time, f_timers_isBy =>
    (y2 ≤ 0 → True) ∧ (¬ (y2 ≤ 0) → (vp_in y1 12 ∧ ((let u3 := FX9_isAfter (f_reg 18) (f_timers_time ((y1 : Int32).toNatClampNeg)); (u3 = 0 → (OX3_endWaits_b1 n (y1 + 1) (y2 + (-1)) f_reg f_memory f_timers f_timers_process f_timers_time f_timers_isBy)) ∧ (¬ (u3 = 0) → (OX3_endWait y1 f_reg f_memory f_timers f_timers_process f_timers_time f_timers_isBy ∧ (let u5 := FX3_endWait y1 f_reg f_memory f_timers f_timers_process f_timers_time f_timers_isBy; OX3_endWaits_b1 n y1 (y2 + (-1)) u5.2.1 u5.2.2.1 u5.2.2.2.1 u5.2.2.2.2.1 u5.2.2.2.2.2.1 u5.2.2.2.2.2.2)))))))
set_option maxRecDepth 20000 in
theorem tX3_endWaits_b1 {d : Nat} {B : mB} {v : mV} {w : mX} {Q : Option Int32 → mMH → Prop} {b g : Nat} (hB : isMach B b g) (hd : g + 2 ≤ b) {u : mF × mF × mF × mF × mF × mF} (hK : ∀ (e0 : Option Value) (he0 : mC1 e0 = true) (e1 : Option Value) (he1 : mC1 e1 = true) (e2 : Option Value) (he2 : mC1 e2 = true), RJ (d + 3) kX3_endWaits (none) 4 [e0, e1, e2] [] (mH B (mE v [(b + 1, u.1), (b + 3, u.2.1), (b + 4, u.2.2.1), (b + 4 + 1, u.2.2.2.1), (b + 4 + 2, u.2.2.2.2.1), (b + 4 + 3, u.2.2.2.2.2)]) w) Q) : ∀ (n : Nat) (y1 : Int32) (y2 : Int32) (f_reg : mF) (f_memory : mF) (f_timers : mF) (f_timers_process : mF) (f_timers_time : mF) (f_timers_isBy : mF), OX3_endWaits_b1 n y1 y2 f_reg f_memory f_timers f_timers_process f_timers_time f_timers_isBy → FX3_endWaits_b1 n y1 y2 f_reg f_memory f_timers f_timers_process f_timers_time f_timers_isBy = u → RJ (d + 3) kX3_endWaits (none) 1 [some (.ref b), some (.int y1), some (.int y2)] [] (mH B (mE v [(b + 1, f_reg), (b + 3, f_memory), (b + 4, f_timers), (b + 4 + 1, f_timers_process), (b + 4 + 2, f_timers_time), (b + 4 + 3, f_timers_isBy)]) w) Q := by
  intro n
  induction n with
  | zero => exact fun _ _ _ _ _ _ _ _ hO => hO.elim
  | succ n ih1 =>
    intro y1 y2 f_reg f_memory f_timers f_timers_process f_timers_time f_timers_isBy hO hP
    rw [FX3_endWaits_b1] at hP
    rw [OX3_endWaits_b1] at hO
    have hn : ∀ (f_reg : mF) (f_memory : mF) (f_timers : mF) (f_timers_process : mF) (f_timers_time : mF) (f_timers_isBy : mF), mNd [(b + 1, f_reg), (b + 3, f_memory), (b + 4, f_timers), (b + 4 + 1, f_timers_process), (b + 4 + 2, f_timers_time), (b + 4 + 3, f_timers_isBy)] := fun _ _ _ _ _ _ => by
      show List.Nodup _
      simp only [List.map_cons, List.map_nil, List.nodup_cons, List.mem_cons, List.not_mem_nil, or_false, not_or, not_false_eq_true, List.nodup_nil, and_true]
      omega
    show RB _ _ _ _ [some (.ref b), some (.int y1), some (.int y2)] [] _ _
    refine r_iload rfl ?_
    refine r_if (fun c1 : y2 ≤ 0 => ?_) (fun c1 : ¬ (y2 ≤ 0) => ?_)
    · rw [if_pos c1] at hP
      have hO := hO.1 c1
      subst hP
      exact hK (some (.ref b)) rfl (some (.int y1)) rfl (some (.int y2)) rfl
    · rw [if_neg c1] at hP
      have hO := hO.2 c1
      refine r_aload rfl ?_
      refine r_getr (q := b + 1) hB.1 hB.2.2.2.2.2.2.2.2.2.2.1 ?_
      refine r_int ?_
      refine r_ald (x := f_reg 18) 0 18 (hn _ _ _ _ _ _) rfl hB.2.1 (by decide) rfl (lt_in 18 20 rfl rfl) (lt_cl 18 rfl) rfl ?_
      refine r_aload rfl ?_
      refine r_getr (q := b + 4) hB.1 hB.2.2.2.2.2.2.2.2.2.2.2.2.2.1 ?_
      refine r_getr (q := b + 4 + 2) hB.2.2.2.2.2.1.1 hB.2.2.2.2.2.1.2.2.2.2.2.1 ?_
      refine r_iload rfl ?_
      obtain ⟨h2, hO⟩ := hO
      refine r_ald (x := f_timers_time ((y1 : Int32).toNatClampNeg)) 4 ((y1 : Int32).toNatClampNeg) (hn _ _ _ _ _ _) rfl hB.2.2.2.2.2.1.2.2.1 (by decide) rfl h2 rfl rfl ?_
      have k8 := fun (Q' : Option Int32 → mMH → Prop) hq => tX9_isAfter (d := d + 2) (B := B) (v := mE v [(b + 1, f_reg), (b + 3, f_memory), (b + 4, f_timers), (b + 4 + 1, f_timers_process), (b + 4 + 2, f_timers_time), (b + 4 + 3, f_timers_isBy)]) (w := w) (Q := Q') (f_reg 18) (f_timers_time ((y1 : Int32).toNatClampNeg)) hq
      generalize hg_u3 : FX9_isAfter (f_reg 18) (f_timers_time ((y1 : Int32).toNatClampNeg)) = u3 at k8 hP hO
      try dsimp only at hP hO
      refine r_callS (st := []) (as := [.int (f_reg 18), .int (f_timers_time ((y1 : Int32).toNatClampNeg))]) (envc := []) (envc' := []) (env' := [(b + 1, f_reg), (b + 3, f_memory), (b + 4, f_timers), (b + 4 + 1, f_timers_process), (b + 4 + 2, f_timers_time), (b + 4 + 3, f_timers_isBy)]) (rv := some u3) [] (Or.inr rfl) (hn _ _ _ _ _ _) rfl rfl (Nat.le_of_ble_eq_true rfl) rfl rfl rfl k8 ?_
      show RB _ _ _ _ _ [.int u3] _ _
      refine r_if (fun c4 : u3 = 0 => ?_) (fun c4 : ¬ (u3 = 0) => ?_)
      · rw [if_pos c4] at hP
        have hO := hO.1 c4
        refine r_iinc (L' := [some (.ref b), some (.int (y1 + 1)), some (.int y2)]) rfl rfl rfl ?_
        refine r_fall ?_
        refine r_iinc (L' := [some (.ref b), some (.int (y1 + 1)), some (.int (y2 + (-1)))]) rfl rfl rfl ?_
        refine r_goto ?_
        exact ih1 (y1 + 1) (y2 + (-1)) f_reg f_memory f_timers f_timers_process f_timers_time f_timers_isBy hO hP
      · rw [if_neg c4] at hP
        have hO := hO.2 c4
        refine r_aload rfl ?_
        refine r_iload rfl ?_
        obtain ⟨h6, hO⟩ := hO
        have k7 := fun (Q' : Option Int32 → mMH → Prop) hq => tX3_endWait (d := d + 0) (B := B) (v := mE v [(b + 1, f_reg), (b + 3, f_memory), (b + 4, f_timers), (b + 4 + 1, f_timers_process), (b + 4 + 2, f_timers_time), (b + 4 + 3, f_timers_isBy)]) (w := w) (Q := Q') hB (by omega) y1 f_reg f_memory f_timers f_timers_process f_timers_time f_timers_isBy h6 hq
        generalize hg_u5 : FX3_endWait y1 f_reg f_memory f_timers f_timers_process f_timers_time f_timers_isBy = u5 at k7 hP hO
        try dsimp only at hP hO
        refine r_callV (st := []) (o := b) (as := [.int y1]) (envc := [(b + 1, f_reg), (b + 3, f_memory), (b + 4, f_timers), (b + 4 + 1, f_timers_process), (b + 4 + 2, f_timers_time), (b + 4 + 3, f_timers_isBy)]) (envc' := [(b + 1, u5.2.1), (b + 3, u5.2.2.1), (b + 4, u5.2.2.2.1), (b + 4 + 1, u5.2.2.2.2.1), (b + 4 + 2, u5.2.2.2.2.2.1), (b + 4 + 3, u5.2.2.2.2.2.2)]) (env' := [(b + 1, u5.2.1), (b + 3, u5.2.2.1), (b + 4, u5.2.2.2.1), (b + 4 + 1, u5.2.2.2.2.1), (b + 4 + 2, u5.2.2.2.2.2.1), (b + 4 + 3, u5.2.2.2.2.2.2)]) (rv := none) [0, 1, 2, 3, 4, 5] (hn _ _ _ _ _ _) rfl rfl (Nat.le_of_ble_eq_true rfl) hB.1 rfl rfl rfl k7 ?_
        show RB _ _ _ _ _ [] _ _
        refine r_goto ?_
        refine r_iinc (L' := [some (.ref b), some (.int y1), some (.int (y2 + (-1)))]) rfl rfl rfl ?_
        refine r_goto ?_
        exact ih1 y1 (y2 + (-1)) u5.2.1 u5.2.2.1 u5.2.2.2.1 u5.2.2.2.2.1 u5.2.2.2.2.2.1 u5.2.2.2.2.2.2 hO hP
def FX3_endWaits (f_reg : mF) (f_memory : mF) (f_timers : mF) (f_timers_process : mF) (f_timers_time : mF) (f_timers_isBy : mF) : Int32 × mF × mF × mF × mF × mF × mF :=
  let u9 := FX3_endWaits_b1 10000 0 (f_timers 0) f_reg f_memory f_timers f_timers_process f_timers_time f_timers_isBy; (0, u9.1, u9.2.1, u9.2.2.1, u9.2.2.2.1, u9.2.2.2.2.1, u9.2.2.2.2.2)
def OX3_endWaits (f_reg : mF) (f_memory : mF) (f_timers : mF) (f_timers_process : mF) (f_timers_time : mF) (f_timers_isBy : mF) : Prop :=
  OX3_endWaits_b1 10000 0 (f_timers 0) f_reg f_memory f_timers f_timers_process f_timers_time f_timers_isBy
set_option maxRecDepth 20000 in
theorem tX3_endWaits {d : Nat} {B : mB} {v : mV} {w : mX} {Q : Option Int32 → mMH → Prop} {b g : Nat} (hB : isMach B b g) (hd : g + 2 ≤ b) (f_reg : mF) (f_memory : mF) (f_timers : mF) (f_timers_process : mF) (f_timers_time : mF) (f_timers_isBy : mF) (hO : OX3_endWaits f_reg f_memory f_timers f_timers_process f_timers_time f_timers_isBy) (hQ : Q (none) (mH B (mE v [(b + 1, (FX3_endWaits f_reg f_memory f_timers f_timers_process f_timers_time f_timers_isBy).2.1), (b + 3, (FX3_endWaits f_reg f_memory f_timers f_timers_process f_timers_time f_timers_isBy).2.2.1), (b + 4, (FX3_endWaits f_reg f_memory f_timers f_timers_process f_timers_time f_timers_isBy).2.2.2.1), (b + 4 + 1, (FX3_endWaits f_reg f_memory f_timers f_timers_process f_timers_time f_timers_isBy).2.2.2.2.1), (b + 4 + 2, (FX3_endWaits f_reg f_memory f_timers f_timers_process f_timers_time f_timers_isBy).2.2.2.2.2.1), (b + 4 + 3, (FX3_endWaits f_reg f_memory f_timers f_timers_process f_timers_time f_timers_isBy).2.2.2.2.2.2)]) w)) : CQ (d + 4) 32 [.ref b] (mH B (mE v [(b + 1, f_reg), (b + 3, f_memory), (b + 4, f_timers), (b + 4 + 1, f_timers_process), (b + 4 + 2, f_timers_time), (b + 4 + 3, f_timers_isBy)]) w) Q := by
  have hn : ∀ (f_reg : mF) (f_memory : mF) (f_timers : mF) (f_timers_process : mF) (f_timers_time : mF) (f_timers_isBy : mF), mNd [(b + 1, f_reg), (b + 3, f_memory), (b + 4, f_timers), (b + 4 + 1, f_timers_process), (b + 4 + 2, f_timers_time), (b + 4 + 3, f_timers_isBy)] := fun _ _ _ _ _ _ => by
    show List.Nodup _
    simp only [List.map_cons, List.map_nil, List.nodup_cons, List.mem_cons, List.not_mem_nil, or_false, not_or, not_false_eq_true, List.nodup_nil, and_true]
    omega
  obtain ⟨P, hPQ, hP⟩ : ∃ P : Int32 × mF × mF × mF × mF × mF × mF → Prop, (∀ (q : Int32) (q0 : mF) (q1 : mF) (q2 : mF) (q3 : mF) (q4 : mF) (q5 : mF), P (q, q0, q1, q2, q3, q4, q5) → Q (none) (mH B (mE v [(b + 1, q0), (b + 3, q1), (b + 4, q2), (b + 4 + 1, q3), (b + 4 + 2, q4), (b + 4 + 3, q5)]) w)) ∧ P (FX3_endWaits f_reg f_memory f_timers f_timers_process f_timers_time f_timers_isBy) := ⟨fun res => Q (none) (mH B (mE v [(b + 1, res.2.1), (b + 3, res.2.2.1), (b + 4, res.2.2.2.1), (b + 4 + 1, res.2.2.2.2.1), (b + 4 + 2, res.2.2.2.2.2.1), (b + 4 + 3, res.2.2.2.2.2.2)]) w), fun _ _ _ _ _ _ _ h => h, hQ⟩
  refine r_begin mt_32 (by intro a ha; simp only [List.mem_cons, List.not_mem_nil, or_false] at ha; rcases ha with rfl <;> rfl) (Nat.le_of_ble_eq_true rfl) ?_
  rw [FX3_endWaits] at hP
  rw [OX3_endWaits] at hO
  show RB _ _ _ _ [some (.ref b), none, none] [] _ _
  refine r_int ?_
  refine r_istore (L' := [some (.ref b), some (.int 0), none]) rfl rfl ?_
  refine r_aload rfl ?_
  refine r_getr (q := b + 4) hB.1 hB.2.2.2.2.2.2.2.2.2.2.2.2.2.1 ?_
  refine r_get (x := f_timers 0) 2 (hn _ _ _ _ _ _) rfl hB.2.2.2.2.2.1.1 (by decide) rfl ?_
  refine r_istore (L' := [some (.ref b), some (.int 0), some (.int (f_timers 0))]) rfl rfl ?_
  refine r_fall ?_
  have h10 := hO
  generalize hg_u9 : FX3_endWaits_b1 10000 0 (f_timers 0) f_reg f_memory f_timers f_timers_process f_timers_time f_timers_isBy = u9 at hP
  try dsimp only at hP
  refine tX3_endWaits_b1 hB hd (u := u9) ?_ 10000 0 (f_timers 0) f_reg f_memory f_timers f_timers_process f_timers_time f_timers_isBy h10 hg_u9
  intro e11 he11 e12 he12 e13 he13
  exact r_retv rfl (hPQ 0 u9.1 u9.2.1 u9.2.2.1 u9.2.2.2.1 u9.2.2.2.2.1 u9.2.2.2.2.2 hP)

def FX3_pushWord (x1 : Int32) (f_reg : mF) (f_memory : mF) : Int32 × mF :=
  let u1 := FX9_isPlace x1; if u1 = 0 then ((0, f_reg)) else (let u4 := FX3_push (f_memory ((x1 : Int32).toNatClampNeg)) f_reg; (1, u4.2))
def OX3_pushWord (x1 : Int32) (f_reg : mF) (f_memory : mF) : Prop :=
  (let u1 := FX9_isPlace x1; (u1 = 0 → True) ∧ (¬ (u1 = 0) → (vp_in x1 96)))
set_option maxRecDepth 20000 in
theorem tX3_pushWord {d : Nat} {B : mB} {v : mV} {w : mX} {Q : Option Int32 → mMH → Prop} {b g : Nat} (hB : isMach B b g) (hd : g + 2 ≤ b) (x1 : Int32) (f_reg : mF) (f_memory : mF) (hO : OX3_pushWord x1 f_reg f_memory) (hQ : Q (some ((FX3_pushWord x1 f_reg f_memory).1)) (mH B (mE v [(b + 1, (FX3_pushWord x1 f_reg f_memory).2), (b + 3, f_memory)]) w)) : CQ (d + 2) 41 [.ref b, .int x1] (mH B (mE v [(b + 1, f_reg), (b + 3, f_memory)]) w) Q := by
  have hn : ∀ (f_reg : mF) (f_memory : mF), mNd [(b + 1, f_reg), (b + 3, f_memory)] := fun _ _ => by
    show List.Nodup _
    simp only [List.map_cons, List.map_nil, List.nodup_cons, List.mem_cons, List.not_mem_nil, or_false, not_or, not_false_eq_true, List.nodup_nil, and_true]
    omega
  obtain ⟨P, hPQ, hP⟩ : ∃ P : Int32 × mF → Prop, (∀ (q : Int32) (q0 : mF), P (q, q0) → Q (some q) (mH B (mE v [(b + 1, q0), (b + 3, f_memory)]) w)) ∧ P (FX3_pushWord x1 f_reg f_memory) := ⟨fun res => Q (some res.1) (mH B (mE v [(b + 1, res.2), (b + 3, f_memory)]) w), fun _ _ h => h, hQ⟩
  refine r_begin mt_41 (by intro a ha; simp only [List.mem_cons, List.not_mem_nil, or_false] at ha; rcases ha with rfl | rfl <;> rfl) (Nat.le_of_ble_eq_true rfl) ?_
  rw [FX3_pushWord] at hP
  rw [OX3_pushWord] at hO
  show RB _ _ _ _ [some (.ref b), some (.int x1)] [] _ _
  refine r_iload rfl ?_
  have k6 := fun (Q' : Option Int32 → mMH → Prop) hq => tX9_isPlace (d := d + 0) (B := B) (v := mE v [(b + 1, f_reg), (b + 3, f_memory)]) (w := w) (Q := Q') x1 hq
  generalize hg_u1 : FX9_isPlace x1 = u1 at k6 hP hO
  try dsimp only at hP hO
  refine r_callS (st := []) (as := [.int x1]) (envc := []) (envc' := []) (env' := [(b + 1, f_reg), (b + 3, f_memory)]) (rv := some u1) [] (Or.inr rfl) (hn _ _) rfl rfl (Nat.le_of_ble_eq_true rfl) rfl rfl rfl k6 ?_
  show RB _ _ _ _ _ [.int u1] _ _
  refine r_if1 (fun c2 : u1 = 0 => ?_) (fun c2 : ¬ (u1 = 0) => ?_)
  · rw [if_pos c2] at hP
    have hO := hO.1 c2
    refine r_int ?_
    exact r_ret rfl rfl (hPQ 0 f_reg hP)
  · rw [if_neg c2] at hP
    have hO := hO.2 c2
    refine r_aload rfl ?_
    refine r_aload rfl ?_
    refine r_getr (q := b + 3) hB.1 hB.2.2.2.2.2.2.2.2.2.2.2.2.1 ?_
    refine r_iload rfl ?_
    have h3 := hO
    refine r_ald (x := f_memory ((x1 : Int32).toNatClampNeg)) 1 ((x1 : Int32).toNatClampNeg) (hn _ _) rfl hB.2.2.2.1 (by decide) rfl h3 rfl rfl ?_
    have k5 := fun (Q' : Option Int32 → mMH → Prop) hq => tX3_push (d := d + 0) (B := B) (v := mE v [(b + 1, f_reg), (b + 3, f_memory)]) (w := w) (Q := Q') hB (by omega) (f_memory ((x1 : Int32).toNatClampNeg)) f_reg hq
    generalize hg_u4 : FX3_push (f_memory ((x1 : Int32).toNatClampNeg)) f_reg = u4 at k5 hP
    try dsimp only at hP
    refine r_callV (st := []) (o := b) (as := [.int (f_memory ((x1 : Int32).toNatClampNeg))]) (envc := [(b + 1, f_reg)]) (envc' := [(b + 1, u4.2)]) (env' := [(b + 1, u4.2), (b + 3, f_memory)]) (rv := none) [0] (hn _ _) rfl rfl (Nat.le_of_ble_eq_true rfl) hB.1 rfl rfl rfl k5 ?_
    show RB _ _ _ _ _ [] _ _
    refine r_int ?_
    exact r_ret rfl rfl (hPQ 1 u4.2 hP)

def FX3_popWord (x1 : Int32) (f_reg : mF) (f_memory : mF) : Int32 × mF × mF :=
  let u1 := FX9_isPlace x1; if u1 = 0 then ((0, f_reg, f_memory)) else (let g4 := upd f_memory ((x1 : Int32).toNatClampNeg) (f_reg 0); let u5 := FX3_pop f_reg; (1, u5.2, g4))
def OX3_popWord (x1 : Int32) (f_reg : mF) (f_memory : mF) : Prop :=
  (let u1 := FX9_isPlace x1; (u1 = 0 → True) ∧ (¬ (u1 = 0) → (vp_in x1 96)))
set_option maxRecDepth 20000 in
theorem tX3_popWord {d : Nat} {B : mB} {v : mV} {w : mX} {Q : Option Int32 → mMH → Prop} {b g : Nat} (hB : isMach B b g) (hd : g + 2 ≤ b) (x1 : Int32) (f_reg : mF) (f_memory : mF) (hO : OX3_popWord x1 f_reg f_memory) (hQ : Q (some ((FX3_popWord x1 f_reg f_memory).1)) (mH B (mE v [(b + 1, (FX3_popWord x1 f_reg f_memory).2.1), (b + 3, (FX3_popWord x1 f_reg f_memory).2.2)]) w)) : CQ (d + 2) 42 [.ref b, .int x1] (mH B (mE v [(b + 1, f_reg), (b + 3, f_memory)]) w) Q := by
  have hn : ∀ (f_reg : mF) (f_memory : mF), mNd [(b + 1, f_reg), (b + 3, f_memory)] := fun _ _ => by
    show List.Nodup _
    simp only [List.map_cons, List.map_nil, List.nodup_cons, List.mem_cons, List.not_mem_nil, or_false, not_or, not_false_eq_true, List.nodup_nil, and_true]
    omega
  obtain ⟨P, hPQ, hP⟩ : ∃ P : Int32 × mF × mF → Prop, (∀ (q : Int32) (q0 : mF) (q1 : mF), P (q, q0, q1) → Q (some q) (mH B (mE v [(b + 1, q0), (b + 3, q1)]) w)) ∧ P (FX3_popWord x1 f_reg f_memory) := ⟨fun res => Q (some res.1) (mH B (mE v [(b + 1, res.2.1), (b + 3, res.2.2)]) w), fun _ _ _ h => h, hQ⟩
  refine r_begin mt_42 (by intro a ha; simp only [List.mem_cons, List.not_mem_nil, or_false] at ha; rcases ha with rfl | rfl <;> rfl) (Nat.le_of_ble_eq_true rfl) ?_
  rw [FX3_popWord] at hP
  rw [OX3_popWord] at hO
  show RB _ _ _ _ [some (.ref b), some (.int x1)] [] _ _
  refine r_iload rfl ?_
  have k7 := fun (Q' : Option Int32 → mMH → Prop) hq => tX9_isPlace (d := d + 0) (B := B) (v := mE v [(b + 1, f_reg), (b + 3, f_memory)]) (w := w) (Q := Q') x1 hq
  generalize hg_u1 : FX9_isPlace x1 = u1 at k7 hP hO
  try dsimp only at hP hO
  refine r_callS (st := []) (as := [.int x1]) (envc := []) (envc' := []) (env' := [(b + 1, f_reg), (b + 3, f_memory)]) (rv := some u1) [] (Or.inr rfl) (hn _ _) rfl rfl (Nat.le_of_ble_eq_true rfl) rfl rfl rfl k7 ?_
  show RB _ _ _ _ _ [.int u1] _ _
  refine r_if1 (fun c2 : u1 = 0 => ?_) (fun c2 : ¬ (u1 = 0) => ?_)
  · rw [if_pos c2] at hP
    have hO := hO.1 c2
    refine r_int ?_
    exact r_ret rfl rfl (hPQ 0 f_reg f_memory hP)
  · rw [if_neg c2] at hP
    have hO := hO.2 c2
    refine r_aload rfl ?_
    refine r_getr (q := b + 3) hB.1 hB.2.2.2.2.2.2.2.2.2.2.2.2.1 ?_
    refine r_iload rfl ?_
    refine r_aload rfl ?_
    refine r_getr (q := b + 1) hB.1 hB.2.2.2.2.2.2.2.2.2.2.1 ?_
    refine r_int ?_
    refine r_ald (x := f_reg 0) 0 0 (hn _ _) rfl hB.2.1 (by decide) rfl (lt_in 0 20 rfl rfl) (lt_cl 0 rfl) rfl ?_
    have h3 := hO
    refine r_ast (y := f_reg 0) (env' := [(b + 1, f_reg), (b + 3, (upd f_memory ((x1 : Int32).toNatClampNeg) (f_reg 0)))]) 1 ((x1 : Int32).toNatClampNeg) (hn _ _) rfl hB.2.2.2.1 (by decide) rfl h3 rfl rfl rfl ?_
    generalize hg_g4 : upd f_memory ((x1 : Int32).toNatClampNeg) (f_reg 0) = g4 at hP ⊢
    try dsimp only at hP
    refine r_aload rfl ?_
    have k6 := fun (Q' : Option Int32 → mMH → Prop) hq => tX3_pop (d := d + 0) (B := B) (v := mE v [(b + 1, f_reg), (b + 3, g4)]) (w := w) (Q := Q') hB (by omega) f_reg hq
    generalize hg_u5 : FX3_pop f_reg = u5 at k6 hP
    try dsimp only at hP
    refine r_callV (st := []) (o := b) (as := []) (envc := [(b + 1, f_reg)]) (envc' := [(b + 1, u5.2)]) (env' := [(b + 1, u5.2), (b + 3, g4)]) (rv := none) [0] (hn _ _) rfl rfl (Nat.le_of_ble_eq_true rfl) hB.1 rfl rfl rfl k6 ?_
    show RB _ _ _ _ _ [] _ _
    refine r_int ?_
    exact r_ret rfl rfl (hPQ 1 u5.2 g4 hP)

def FX3_performTold (x1 : Int32) (x2 : Int32) (x3 : Int32) (f_reg : mF) (f_memory : mF) : Int32 × mF × mF :=
  if x1 = 0 then (let u1 := FX3_push x2 f_reg; (1, u1.2, f_memory)) else (if x1 = 1 then (let u3 := FX3_pushWord ((f_reg 4) + x2) f_reg f_memory; (u3.1, u3.2, f_memory)) else (if x1 = 2 then (let u6 := FX3_popWord ((f_reg 4) + x2) f_reg f_memory; (u6.1, u6.2.1, u6.2.2)) else (if x1 = 3 then (let u9 := FX3_push ((f_reg 4) + x2) f_reg; (1, u9.2, f_memory)) else (if x1 = 4 then ((1, (upd f_reg 0 ((f_reg 0) + x2)), f_memory)) else (if x1 = 5 then (if (f_reg 0) = x2 then ((1, (upd f_reg 0 1), f_memory)) else ((1, (upd f_reg 0 0), f_memory))) else (if x1 = 6 then (let u12 := FX9_isW ((f_reg 4) + x2); (u12, (upd f_reg 4 ((f_reg 4) + x2)), f_memory)) else (if x1 = 7 then (let u14 := FX3_jump x2 x3 f_reg f_memory; (1, u14.2.1, u14.2.2)) else (if x1 = 8 then (if (f_reg 0) = 0 then ((1, (upd f_reg 3 x2), f_memory)) else (let u18 := FX3_pop f_reg; (1, u18.2, f_memory))) else (if x1 = 9 then (let u20 := FX3_push x2 f_reg; (1, u20.2, f_memory)) else ((0, f_reg, f_memory)))))))))))
def OX3_performTold (x1 : Int32) (x2 : Int32) (x3 : Int32) (f_reg : mF) (f_memory : mF) : Prop :=
  ((x1 = 0 → True) ∧ (¬ (x1 = 0) → ((x1 = 1 → (OX3_pushWord ((f_reg 4) + x2) f_reg f_memory ∧ (let u3 := FX3_pushWord ((f_reg 4) + x2) f_reg f_memory; u3.1 = 0 ∨ u3.1 = 1))) ∧ (¬ (x1 = 1) → ((x1 = 2 → (OX3_popWord ((f_reg 4) + x2) f_reg f_memory ∧ (let u6 := FX3_popWord ((f_reg 4) + x2) f_reg f_memory; u6.1 = 0 ∨ u6.1 = 1))) ∧ (¬ (x1 = 2) → ((x1 = 3 → True) ∧ (¬ (x1 = 3) → ((x1 = 4 → True) ∧ (¬ (x1 = 4) → ((x1 = 5 → True) ∧ (¬ (x1 = 5) → ((x1 = 6 → ((let u12 := FX9_isW ((f_reg 4) + x2); u12 = 0 ∨ u12 = 1))) ∧ (¬ (x1 = 6) → ((x1 = 7 → (OX3_jump x2 x3 f_reg f_memory)) ∧ (¬ (x1 = 7) → ((x1 = 8 → True) ∧ (¬ (x1 = 8) → ((x1 = 9 → True) ∧ (¬ (x1 = 9) → True))))))))))))))))))))
set_option maxRecDepth 20000 in
theorem tX3_performTold {d : Nat} {B : mB} {v : mV} {w : mX} {Q : Option Int32 → mMH → Prop} {b g : Nat} (hB : isMach B b g) (hd : g + 2 ≤ b) (x1 : Int32) (x2 : Int32) (x3 : Int32) (f_reg : mF) (f_memory : mF) (hO : OX3_performTold x1 x2 x3 f_reg f_memory) (hQ : Q (some ((FX3_performTold x1 x2 x3 f_reg f_memory).1)) (mH B (mE v [(b + 1, (FX3_performTold x1 x2 x3 f_reg f_memory).2.1), (b + 3, (FX3_performTold x1 x2 x3 f_reg f_memory).2.2)]) w)) : CQ (d + 4) 40 [.ref b, .int x1, .int x2, .int x3] (mH B (mE v [(b + 1, f_reg), (b + 3, f_memory)]) w) Q := by
  have hn : ∀ (f_reg : mF) (f_memory : mF), mNd [(b + 1, f_reg), (b + 3, f_memory)] := fun _ _ => by
    show List.Nodup _
    simp only [List.map_cons, List.map_nil, List.nodup_cons, List.mem_cons, List.not_mem_nil, or_false, not_or, not_false_eq_true, List.nodup_nil, and_true]
    omega
  obtain ⟨P, hPQ, hP⟩ : ∃ P : Int32 × mF × mF → Prop, (∀ (q : Int32) (q0 : mF) (q1 : mF), P (q, q0, q1) → Q (some q) (mH B (mE v [(b + 1, q0), (b + 3, q1)]) w)) ∧ P (FX3_performTold x1 x2 x3 f_reg f_memory) := ⟨fun res => Q (some res.1) (mH B (mE v [(b + 1, res.2.1), (b + 3, res.2.2)]) w), fun _ _ _ h => h, hQ⟩
  refine r_begin mt_40 (by intro a ha; simp only [List.mem_cons, List.not_mem_nil, or_false] at ha; rcases ha with rfl | rfl | rfl | rfl <;> rfl) (Nat.le_of_ble_eq_true rfl) ?_
  rw [FX3_performTold] at hP
  rw [OX3_performTold] at hO
  show RB _ _ _ _ [some (.ref b), some (.int x1), some (.int x2), some (.int x3), none] [] _ _
  refine r_aload rfl ?_
  refine r_getr (q := b + 1) hB.1 hB.2.2.2.2.2.2.2.2.2.2.1 ?_
  refine r_int ?_
  refine r_ald (x := f_reg 4) 0 4 (hn _ _) rfl hB.2.1 (by decide) rfl (lt_in 4 20 rfl rfl) (lt_cl 4 rfl) rfl ?_
  refine r_iload rfl ?_
  refine r_iadd ?_
  refine r_istore (L' := [some (.ref b), some (.int x1), some (.int x2), some (.int x3), some (.int ((f_reg 4) + x2))]) rfl rfl ?_
  refine r_iload rfl ?_
  by_cases c22 : x1 = 0
  · rw [if_pos c22] at hP
    have hO := hO.1 c22
    refine r_tswAt (k := 0) (b := 1) rfl (by rw [c22]; decide) ?_
    refine r_aload rfl ?_
    refine r_iload rfl ?_
    have k2 := fun (Q' : Option Int32 → mMH → Prop) hq => tX3_push (d := d + 2) (B := B) (v := mE v [(b + 1, f_reg), (b + 3, f_memory)]) (w := w) (Q := Q') hB (by omega) x2 f_reg hq
    generalize hg_u1 : FX3_push x2 f_reg = u1 at k2 hP
    try dsimp only at hP
    refine r_callV (st := []) (o := b) (as := [.int x2]) (envc := [(b + 1, f_reg)]) (envc' := [(b + 1, u1.2)]) (env' := [(b + 1, u1.2), (b + 3, f_memory)]) (rv := none) [0] (hn _ _) rfl rfl (Nat.le_of_ble_eq_true rfl) hB.1 rfl rfl rfl k2 ?_
    show RB _ _ _ _ _ [] _ _
    refine r_int ?_
    exact r_ret rfl rfl (hPQ 1 u1.2 f_memory hP)
  · rw [if_neg c22] at hP
    have hO := hO.2 c22
    by_cases c23 : x1 = 1
    · rw [if_pos c23] at hP
      have hO := hO.1 c23
      refine r_tswAt (k := 1) (b := 2) rfl (by rw [c23]; decide) ?_
      refine r_aload rfl ?_
      refine r_iload rfl ?_
      obtain ⟨h4, hO⟩ := hO
      have k5 := fun (Q' : Option Int32 → mMH → Prop) hq => tX3_pushWord (d := d + 1) (B := B) (v := mE v [(b + 1, f_reg), (b + 3, f_memory)]) (w := w) (Q := Q') hB (by omega) ((f_reg 4) + x2) f_reg f_memory h4 hq
      generalize hg_u3 : FX3_pushWord ((f_reg 4) + x2) f_reg f_memory = u3 at k5 hP hO
      try dsimp only at hP hO
      refine r_callV (st := []) (o := b) (as := [.int ((f_reg 4) + x2)]) (envc := [(b + 1, f_reg), (b + 3, f_memory)]) (envc' := [(b + 1, u3.2), (b + 3, f_memory)]) (env' := [(b + 1, u3.2), (b + 3, f_memory)]) (rv := some u3.1) [0, 1] (hn _ _) rfl rfl (Nat.le_of_ble_eq_true rfl) hB.1 rfl rfl rfl k5 ?_
      show RB _ _ _ _ _ [.int u3.1] _ _
      exact r_ret rfl (nz_ok hO) (hPQ u3.1 u3.2 f_memory hP)
    · rw [if_neg c23] at hP
      have hO := hO.2 c23
      by_cases c24 : x1 = 2
      · rw [if_pos c24] at hP
        have hO := hO.1 c24
        refine r_tswAt (k := 2) (b := 3) rfl (by rw [c24]; decide) ?_
        refine r_aload rfl ?_
        refine r_iload rfl ?_
        obtain ⟨h7, hO⟩ := hO
        have k8 := fun (Q' : Option Int32 → mMH → Prop) hq => tX3_popWord (d := d + 1) (B := B) (v := mE v [(b + 1, f_reg), (b + 3, f_memory)]) (w := w) (Q := Q') hB (by omega) ((f_reg 4) + x2) f_reg f_memory h7 hq
        generalize hg_u6 : FX3_popWord ((f_reg 4) + x2) f_reg f_memory = u6 at k8 hP hO
        try dsimp only at hP hO
        refine r_callV (st := []) (o := b) (as := [.int ((f_reg 4) + x2)]) (envc := [(b + 1, f_reg), (b + 3, f_memory)]) (envc' := [(b + 1, u6.2.1), (b + 3, u6.2.2)]) (env' := [(b + 1, u6.2.1), (b + 3, u6.2.2)]) (rv := some u6.1) [0, 1] (hn _ _) rfl rfl (Nat.le_of_ble_eq_true rfl) hB.1 rfl rfl rfl k8 ?_
        show RB _ _ _ _ _ [.int u6.1] _ _
        exact r_ret rfl (nz_ok hO) (hPQ u6.1 u6.2.1 u6.2.2 hP)
      · rw [if_neg c24] at hP
        have hO := hO.2 c24
        by_cases c25 : x1 = 3
        · rw [if_pos c25] at hP
          have hO := hO.1 c25
          refine r_tswAt (k := 3) (b := 4) rfl (by rw [c25]; decide) ?_
          refine r_aload rfl ?_
          refine r_iload rfl ?_
          have k10 := fun (Q' : Option Int32 → mMH → Prop) hq => tX3_push (d := d + 2) (B := B) (v := mE v [(b + 1, f_reg), (b + 3, f_memory)]) (w := w) (Q := Q') hB (by omega) ((f_reg 4) + x2) f_reg hq
          generalize hg_u9 : FX3_push ((f_reg 4) + x2) f_reg = u9 at k10 hP
          try dsimp only at hP
          refine r_callV (st := []) (o := b) (as := [.int ((f_reg 4) + x2)]) (envc := [(b + 1, f_reg)]) (envc' := [(b + 1, u9.2)]) (env' := [(b + 1, u9.2), (b + 3, f_memory)]) (rv := none) [0] (hn _ _) rfl rfl (Nat.le_of_ble_eq_true rfl) hB.1 rfl rfl rfl k10 ?_
          show RB _ _ _ _ _ [] _ _
          refine r_int ?_
          exact r_ret rfl rfl (hPQ 1 u9.2 f_memory hP)
        · rw [if_neg c25] at hP
          have hO := hO.2 c25
          by_cases c26 : x1 = 4
          · rw [if_pos c26] at hP
            have hO := hO.1 c26
            refine r_tswAt (k := 4) (b := 5) rfl (by rw [c26]; decide) ?_
            refine r_aload rfl ?_
            refine r_getr (q := b + 1) hB.1 hB.2.2.2.2.2.2.2.2.2.2.1 ?_
            refine r_int ?_
            refine r_dup2 rfl rfl ?_
            refine r_ald (x := f_reg 0) 0 0 (hn _ _) rfl hB.2.1 (by decide) rfl (lt_in 0 20 rfl rfl) (lt_cl 0 rfl) rfl ?_
            refine r_iload rfl ?_
            refine r_iadd ?_
            refine r_ast (y := (f_reg 0) + x2) (env' := [(b + 1, (upd f_reg 0 ((f_reg 0) + x2))), (b + 3, f_memory)]) 0 0 (hn _ _) rfl hB.2.1 (by decide) rfl (lt_in 0 20 rfl rfl) (lt_cl 0 rfl) rfl rfl ?_
            refine r_int ?_
            exact r_ret rfl rfl (hPQ 1 (upd f_reg 0 ((f_reg 0) + x2)) f_memory hP)
          · rw [if_neg c26] at hP
            have hO := hO.2 c26
            by_cases c27 : x1 = 5
            · rw [if_pos c27] at hP
              have hO := hO.1 c27
              refine r_tswAt (k := 5) (b := 6) rfl (by rw [c27]; decide) ?_
              refine r_aload rfl ?_
              refine r_getr (q := b + 1) hB.1 hB.2.2.2.2.2.2.2.2.2.2.1 ?_
              refine r_int ?_
              refine r_aload rfl ?_
              refine r_getr (q := b + 1) hB.1 hB.2.2.2.2.2.2.2.2.2.2.1 ?_
              refine r_int ?_
              refine r_ald (x := f_reg 0) 0 0 (hn _ _) rfl hB.2.1 (by decide) rfl (lt_in 0 20 rfl rfl) (lt_cl 0 rfl) rfl ?_
              refine r_iload rfl ?_
              refine r_icmp1 (fun c11 : (f_reg 0) = x2 => ?_) (fun c11 : ¬ ((f_reg 0) = x2) => ?_)
              · rw [if_pos c11] at hP
                refine r_int ?_
                refine r_goto ?_
                refine r_ast (y := 1) (env' := [(b + 1, (upd f_reg 0 1)), (b + 3, f_memory)]) 0 0 (hn _ _) rfl hB.2.1 (by decide) rfl (lt_in 0 20 rfl rfl) (lt_cl 0 rfl) rfl rfl ?_
                refine r_int ?_
                exact r_ret rfl rfl (hPQ 1 (upd f_reg 0 1) f_memory hP)
              · rw [if_neg c11] at hP
                refine r_int ?_
                refine r_fall ?_
                refine r_ast (y := 0) (env' := [(b + 1, (upd f_reg 0 0)), (b + 3, f_memory)]) 0 0 (hn _ _) rfl hB.2.1 (by decide) rfl (lt_in 0 20 rfl rfl) (lt_cl 0 rfl) rfl rfl ?_
                refine r_int ?_
                exact r_ret rfl rfl (hPQ 1 (upd f_reg 0 0) f_memory hP)
            · rw [if_neg c27] at hP
              have hO := hO.2 c27
              by_cases c28 : x1 = 6
              · rw [if_pos c28] at hP
                have hO := hO.1 c28
                refine r_tswAt (k := 6) (b := 9) rfl (by rw [c28]; decide) ?_
                refine r_aload rfl ?_
                refine r_getr (q := b + 1) hB.1 hB.2.2.2.2.2.2.2.2.2.2.1 ?_
                refine r_int ?_
                refine r_iload rfl ?_
                refine r_ast (y := (f_reg 4) + x2) (env' := [(b + 1, (upd f_reg 4 ((f_reg 4) + x2))), (b + 3, f_memory)]) 0 4 (hn _ _) rfl hB.2.1 (by decide) rfl (lt_in 4 20 rfl rfl) (lt_cl 4 rfl) rfl rfl ?_
                refine r_iload rfl ?_
                have k13 := fun (Q' : Option Int32 → mMH → Prop) hq => tX9_isW (d := d + 2) (B := B) (v := mE v [(b + 1, (upd f_reg 4 ((f_reg 4) + x2))), (b + 3, f_memory)]) (w := w) (Q := Q') ((f_reg 4) + x2) hq
                generalize hg_u12 : FX9_isW ((f_reg 4) + x2) = u12 at k13 hP hO
                try dsimp only at hP hO
                refine r_callS (st := []) (as := [.int ((f_reg 4) + x2)]) (envc := []) (envc' := []) (env' := [(b + 1, (upd f_reg 4 ((f_reg 4) + x2))), (b + 3, f_memory)]) (rv := some u12) [] (Or.inr rfl) (hn _ _) rfl rfl (Nat.le_of_ble_eq_true rfl) rfl rfl rfl k13 ?_
                show RB _ _ _ _ _ [.int u12] _ _
                exact r_ret rfl (nz_ok hO) (hPQ u12 (upd f_reg 4 ((f_reg 4) + x2)) f_memory hP)
              · rw [if_neg c28] at hP
                have hO := hO.2 c28
                by_cases c29 : x1 = 7
                · rw [if_pos c29] at hP
                  have hO := hO.1 c29
                  refine r_tswAt (k := 7) (b := 10) rfl (by rw [c29]; decide) ?_
                  refine r_aload rfl ?_
                  refine r_iload rfl ?_
                  refine r_iload rfl ?_
                  have h15 := hO
                  have k16 := fun (Q' : Option Int32 → mMH → Prop) hq => tX3_jump (d := d + 0) (B := B) (v := mE v [(b + 1, f_reg), (b + 3, f_memory)]) (w := w) (Q := Q') hB (by omega) x2 x3 f_reg f_memory h15 hq
                  generalize hg_u14 : FX3_jump x2 x3 f_reg f_memory = u14 at k16 hP
                  try dsimp only at hP
                  refine r_callV (st := []) (o := b) (as := [.int x2, .int x3]) (envc := [(b + 1, f_reg), (b + 3, f_memory)]) (envc' := [(b + 1, u14.2.1), (b + 3, u14.2.2)]) (env' := [(b + 1, u14.2.1), (b + 3, u14.2.2)]) (rv := none) [0, 1] (hn _ _) rfl rfl (Nat.le_of_ble_eq_true rfl) hB.1 rfl rfl rfl k16 ?_
                  show RB _ _ _ _ _ [] _ _
                  refine r_int ?_
                  exact r_ret rfl rfl (hPQ 1 u14.2.1 u14.2.2 hP)
                · rw [if_neg c29] at hP
                  have hO := hO.2 c29
                  by_cases c30 : x1 = 8
                  · rw [if_pos c30] at hP
                    have hO := hO.1 c30
                    refine r_tswAt (k := 8) (b := 11) rfl (by rw [c30]; decide) ?_
                    refine r_aload rfl ?_
                    refine r_getr (q := b + 1) hB.1 hB.2.2.2.2.2.2.2.2.2.2.1 ?_
                    refine r_int ?_
                    refine r_ald (x := f_reg 0) 0 0 (hn _ _) rfl hB.2.1 (by decide) rfl (lt_in 0 20 rfl rfl) (lt_cl 0 rfl) rfl ?_
                    refine r_if1 (fun c17 : (f_reg 0) = 0 => ?_) (fun c17 : ¬ ((f_reg 0) = 0) => ?_)
                    · rw [if_pos c17] at hP
                      refine r_aload rfl ?_
                      refine r_getr (q := b + 1) hB.1 hB.2.2.2.2.2.2.2.2.2.2.1 ?_
                      refine r_int ?_
                      refine r_iload rfl ?_
                      refine r_ast (y := x2) (env' := [(b + 1, (upd f_reg 3 x2)), (b + 3, f_memory)]) 0 3 (hn _ _) rfl hB.2.1 (by decide) rfl (lt_in 3 20 rfl rfl) (lt_cl 3 rfl) rfl rfl ?_
                      refine r_goto ?_
                      refine r_int ?_
                      exact r_ret rfl rfl (hPQ 1 (upd f_reg 3 x2) f_memory hP)
                    · rw [if_neg c17] at hP
                      refine r_aload rfl ?_
                      have k19 := fun (Q' : Option Int32 → mMH → Prop) hq => tX3_pop (d := d + 2) (B := B) (v := mE v [(b + 1, f_reg), (b + 3, f_memory)]) (w := w) (Q := Q') hB (by omega) f_reg hq
                      generalize hg_u18 : FX3_pop f_reg = u18 at k19 hP
                      try dsimp only at hP
                      refine r_callV (st := []) (o := b) (as := []) (envc := [(b + 1, f_reg)]) (envc' := [(b + 1, u18.2)]) (env' := [(b + 1, u18.2), (b + 3, f_memory)]) (rv := none) [0] (hn _ _) rfl rfl (Nat.le_of_ble_eq_true rfl) hB.1 rfl rfl rfl k19 ?_
                      show RB _ _ _ _ _ [] _ _
                      refine r_fall ?_
                      refine r_int ?_
                      exact r_ret rfl rfl (hPQ 1 u18.2 f_memory hP)
                  · rw [if_neg c30] at hP
                    have hO := hO.2 c30
                    by_cases c31 : x1 = 9
                    · rw [if_pos c31] at hP
                      have hO := hO.1 c31
                      refine r_tswAt (k := 9) (b := 1) rfl (by rw [c31]; decide) ?_
                      refine r_aload rfl ?_
                      refine r_iload rfl ?_
                      have k21 := fun (Q' : Option Int32 → mMH → Prop) hq => tX3_push (d := d + 2) (B := B) (v := mE v [(b + 1, f_reg), (b + 3, f_memory)]) (w := w) (Q := Q') hB (by omega) x2 f_reg hq
                      generalize hg_u20 : FX3_push x2 f_reg = u20 at k21 hP
                      try dsimp only at hP
                      refine r_callV (st := []) (o := b) (as := [.int x2]) (envc := [(b + 1, f_reg)]) (envc' := [(b + 1, u20.2)]) (env' := [(b + 1, u20.2), (b + 3, f_memory)]) (rv := none) [0] (hn _ _) rfl rfl (Nat.le_of_ble_eq_true rfl) hB.1 rfl rfl rfl k21 ?_
                      show RB _ _ _ _ _ [] _ _
                      refine r_int ?_
                      exact r_ret rfl rfl (hPQ 1 u20.2 f_memory hP)
                    · rw [if_neg c31] at hP
                      have hO := hO.2 c31
                      refine r_tswD (fun k hk => ?_) ?_
                      · have hk : k < 10 := hk
                        rcases (show k = 0 ∨ k = 1 ∨ k = 2 ∨ k = 3 ∨ k = 4 ∨ k = 5 ∨ k = 6 ∨ k = 7 ∨ k = 8 ∨ k = 9 by omega) with rfl | rfl | rfl | rfl | rfl | rfl | rfl | rfl | rfl | rfl
                        · rw [show (0 : Int32) + nI 0 = 0 by decide +kernel]; exact c22
                        · rw [show (0 : Int32) + nI 1 = 1 by decide +kernel]; exact c23
                        · rw [show (0 : Int32) + nI 2 = 2 by decide +kernel]; exact c24
                        · rw [show (0 : Int32) + nI 3 = 3 by decide +kernel]; exact c25
                        · rw [show (0 : Int32) + nI 4 = 4 by decide +kernel]; exact c26
                        · rw [show (0 : Int32) + nI 5 = 5 by decide +kernel]; exact c27
                        · rw [show (0 : Int32) + nI 6 = 6 by decide +kernel]; exact c28
                        · rw [show (0 : Int32) + nI 7 = 7 by decide +kernel]; exact c29
                        · rw [show (0 : Int32) + nI 8 = 8 by decide +kernel]; exact c30
                        · rw [show (0 : Int32) + nI 9 = 9 by decide +kernel]; exact c31
                      refine r_int ?_
                      exact r_ret rfl rfl (hPQ 0 f_reg f_memory hP)

def FX3_load (f_reg : mF) (f_memory : mF) : Int32 × mF :=
  let u1 := FX9_isPlace (f_reg 0); if u1 = 0 then ((0, f_reg)) else ((1, (upd f_reg 0 (f_memory ((f_reg 0 : Int32).toNatClampNeg)))))
def OX3_load (f_reg : mF) (f_memory : mF) : Prop :=
  (let u1 := FX9_isPlace (f_reg 0); (u1 = 0 → True) ∧ (¬ (u1 = 0) → (vp_in (f_reg 0) 96)))
set_option maxRecDepth 20000 in
theorem tX3_load {d : Nat} {B : mB} {v : mV} {w : mX} {Q : Option Int32 → mMH → Prop} {b g : Nat} (hB : isMach B b g) (hd : g + 2 ≤ b) (f_reg : mF) (f_memory : mF) (hO : OX3_load f_reg f_memory) (hQ : Q (some ((FX3_load f_reg f_memory).1)) (mH B (mE v [(b + 1, (FX3_load f_reg f_memory).2), (b + 3, f_memory)]) w)) : CQ (d + 2) 45 [.ref b] (mH B (mE v [(b + 1, f_reg), (b + 3, f_memory)]) w) Q := by
  have hn : ∀ (f_reg : mF) (f_memory : mF), mNd [(b + 1, f_reg), (b + 3, f_memory)] := fun _ _ => by
    show List.Nodup _
    simp only [List.map_cons, List.map_nil, List.nodup_cons, List.mem_cons, List.not_mem_nil, or_false, not_or, not_false_eq_true, List.nodup_nil, and_true]
    omega
  obtain ⟨P, hPQ, hP⟩ : ∃ P : Int32 × mF → Prop, (∀ (q : Int32) (q0 : mF), P (q, q0) → Q (some q) (mH B (mE v [(b + 1, q0), (b + 3, f_memory)]) w)) ∧ P (FX3_load f_reg f_memory) := ⟨fun res => Q (some res.1) (mH B (mE v [(b + 1, res.2), (b + 3, f_memory)]) w), fun _ _ h => h, hQ⟩
  refine r_begin mt_45 (by intro a ha; simp only [List.mem_cons, List.not_mem_nil, or_false] at ha; rcases ha with rfl <;> rfl) (Nat.le_of_ble_eq_true rfl) ?_
  rw [FX3_load] at hP
  rw [OX3_load] at hO
  show RB _ _ _ _ [some (.ref b)] [] _ _
  refine r_aload rfl ?_
  refine r_getr (q := b + 1) hB.1 hB.2.2.2.2.2.2.2.2.2.2.1 ?_
  refine r_int ?_
  refine r_ald (x := f_reg 0) 0 0 (hn _ _) rfl hB.2.1 (by decide) rfl (lt_in 0 20 rfl rfl) (lt_cl 0 rfl) rfl ?_
  have k4 := fun (Q' : Option Int32 → mMH → Prop) hq => tX9_isPlace (d := d + 0) (B := B) (v := mE v [(b + 1, f_reg), (b + 3, f_memory)]) (w := w) (Q := Q') (f_reg 0) hq
  generalize hg_u1 : FX9_isPlace (f_reg 0) = u1 at k4 hP hO
  try dsimp only at hP hO
  refine r_callS (st := []) (as := [.int (f_reg 0)]) (envc := []) (envc' := []) (env' := [(b + 1, f_reg), (b + 3, f_memory)]) (rv := some u1) [] (Or.inr rfl) (hn _ _) rfl rfl (Nat.le_of_ble_eq_true rfl) rfl rfl rfl k4 ?_
  show RB _ _ _ _ _ [.int u1] _ _
  refine r_if1 (fun c2 : u1 = 0 => ?_) (fun c2 : ¬ (u1 = 0) => ?_)
  · rw [if_pos c2] at hP
    have hO := hO.1 c2
    refine r_int ?_
    exact r_ret rfl rfl (hPQ 0 f_reg hP)
  · rw [if_neg c2] at hP
    have hO := hO.2 c2
    refine r_aload rfl ?_
    refine r_getr (q := b + 1) hB.1 hB.2.2.2.2.2.2.2.2.2.2.1 ?_
    refine r_int ?_
    refine r_aload rfl ?_
    refine r_getr (q := b + 3) hB.1 hB.2.2.2.2.2.2.2.2.2.2.2.2.1 ?_
    refine r_aload rfl ?_
    refine r_getr (q := b + 1) hB.1 hB.2.2.2.2.2.2.2.2.2.2.1 ?_
    refine r_int ?_
    refine r_ald (x := f_reg 0) 0 0 (hn _ _) rfl hB.2.1 (by decide) rfl (lt_in 0 20 rfl rfl) (lt_cl 0 rfl) rfl ?_
    have h3 := hO
    refine r_ald (x := f_memory ((f_reg 0 : Int32).toNatClampNeg)) 1 ((f_reg 0 : Int32).toNatClampNeg) (hn _ _) rfl hB.2.2.2.1 (by decide) rfl h3 rfl rfl ?_
    refine r_ast (y := f_memory ((f_reg 0 : Int32).toNatClampNeg)) (env' := [(b + 1, (upd f_reg 0 (f_memory ((f_reg 0 : Int32).toNatClampNeg)))), (b + 3, f_memory)]) 0 0 (hn _ _) rfl hB.2.1 (by decide) rfl (lt_in 0 20 rfl rfl) (lt_cl 0 rfl) rfl rfl ?_
    refine r_int ?_
    exact r_ret rfl rfl (hPQ 1 (upd f_reg 0 (f_memory ((f_reg 0 : Int32).toNatClampNeg))) hP)

def FX3_store (f_reg : mF) (f_memory : mF) : Int32 × mF × mF :=
  let u1 := FX9_isPlace (f_reg 0); if u1 = 0 then ((0, f_reg, f_memory)) else (let g4 := upd f_memory ((f_reg 0 : Int32).toNatClampNeg) (f_reg 1); let u5 := FX3_pop f_reg; let u6 := FX3_pop u5.2; (1, u6.2, g4))
def OX3_store (f_reg : mF) (f_memory : mF) : Prop :=
  (let u1 := FX9_isPlace (f_reg 0); (u1 = 0 → True) ∧ (¬ (u1 = 0) → (vp_in (f_reg 0) 96)))
set_option maxRecDepth 20000 in
theorem tX3_store {d : Nat} {B : mB} {v : mV} {w : mX} {Q : Option Int32 → mMH → Prop} {b g : Nat} (hB : isMach B b g) (hd : g + 2 ≤ b) (f_reg : mF) (f_memory : mF) (hO : OX3_store f_reg f_memory) (hQ : Q (some ((FX3_store f_reg f_memory).1)) (mH B (mE v [(b + 1, (FX3_store f_reg f_memory).2.1), (b + 3, (FX3_store f_reg f_memory).2.2)]) w)) : CQ (d + 2) 46 [.ref b] (mH B (mE v [(b + 1, f_reg), (b + 3, f_memory)]) w) Q := by
  have hn : ∀ (f_reg : mF) (f_memory : mF), mNd [(b + 1, f_reg), (b + 3, f_memory)] := fun _ _ => by
    show List.Nodup _
    simp only [List.map_cons, List.map_nil, List.nodup_cons, List.mem_cons, List.not_mem_nil, or_false, not_or, not_false_eq_true, List.nodup_nil, and_true]
    omega
  obtain ⟨P, hPQ, hP⟩ : ∃ P : Int32 × mF × mF → Prop, (∀ (q : Int32) (q0 : mF) (q1 : mF), P (q, q0, q1) → Q (some q) (mH B (mE v [(b + 1, q0), (b + 3, q1)]) w)) ∧ P (FX3_store f_reg f_memory) := ⟨fun res => Q (some res.1) (mH B (mE v [(b + 1, res.2.1), (b + 3, res.2.2)]) w), fun _ _ _ h => h, hQ⟩
  refine r_begin mt_46 (by intro a ha; simp only [List.mem_cons, List.not_mem_nil, or_false] at ha; rcases ha with rfl <;> rfl) (Nat.le_of_ble_eq_true rfl) ?_
  rw [FX3_store] at hP
  rw [OX3_store] at hO
  show RB _ _ _ _ [some (.ref b)] [] _ _
  refine r_aload rfl ?_
  refine r_getr (q := b + 1) hB.1 hB.2.2.2.2.2.2.2.2.2.2.1 ?_
  refine r_int ?_
  refine r_ald (x := f_reg 0) 0 0 (hn _ _) rfl hB.2.1 (by decide) rfl (lt_in 0 20 rfl rfl) (lt_cl 0 rfl) rfl ?_
  have k9 := fun (Q' : Option Int32 → mMH → Prop) hq => tX9_isPlace (d := d + 0) (B := B) (v := mE v [(b + 1, f_reg), (b + 3, f_memory)]) (w := w) (Q := Q') (f_reg 0) hq
  generalize hg_u1 : FX9_isPlace (f_reg 0) = u1 at k9 hP hO
  try dsimp only at hP hO
  refine r_callS (st := []) (as := [.int (f_reg 0)]) (envc := []) (envc' := []) (env' := [(b + 1, f_reg), (b + 3, f_memory)]) (rv := some u1) [] (Or.inr rfl) (hn _ _) rfl rfl (Nat.le_of_ble_eq_true rfl) rfl rfl rfl k9 ?_
  show RB _ _ _ _ _ [.int u1] _ _
  refine r_if1 (fun c2 : u1 = 0 => ?_) (fun c2 : ¬ (u1 = 0) => ?_)
  · rw [if_pos c2] at hP
    have hO := hO.1 c2
    refine r_int ?_
    exact r_ret rfl rfl (hPQ 0 f_reg f_memory hP)
  · rw [if_neg c2] at hP
    have hO := hO.2 c2
    refine r_aload rfl ?_
    refine r_getr (q := b + 3) hB.1 hB.2.2.2.2.2.2.2.2.2.2.2.2.1 ?_
    refine r_aload rfl ?_
    refine r_getr (q := b + 1) hB.1 hB.2.2.2.2.2.2.2.2.2.2.1 ?_
    refine r_int ?_
    refine r_ald (x := f_reg 0) 0 0 (hn _ _) rfl hB.2.1 (by decide) rfl (lt_in 0 20 rfl rfl) (lt_cl 0 rfl) rfl ?_
    refine r_aload rfl ?_
    refine r_getr (q := b + 1) hB.1 hB.2.2.2.2.2.2.2.2.2.2.1 ?_
    refine r_int ?_
    refine r_ald (x := f_reg 1) 0 1 (hn _ _) rfl hB.2.1 (by decide) rfl (lt_in 1 20 rfl rfl) (lt_cl 1 rfl) rfl ?_
    have h3 := hO
    refine r_ast (y := f_reg 1) (env' := [(b + 1, f_reg), (b + 3, (upd f_memory ((f_reg 0 : Int32).toNatClampNeg) (f_reg 1)))]) 1 ((f_reg 0 : Int32).toNatClampNeg) (hn _ _) rfl hB.2.2.2.1 (by decide) rfl h3 rfl rfl rfl ?_
    generalize hg_g4 : upd f_memory ((f_reg 0 : Int32).toNatClampNeg) (f_reg 1) = g4 at hP ⊢
    try dsimp only at hP
    refine r_aload rfl ?_
    have k8 := fun (Q' : Option Int32 → mMH → Prop) hq => tX3_pop (d := d + 0) (B := B) (v := mE v [(b + 1, f_reg), (b + 3, g4)]) (w := w) (Q := Q') hB (by omega) f_reg hq
    generalize hg_u5 : FX3_pop f_reg = u5 at k8 hP
    try dsimp only at hP
    refine r_callV (st := []) (o := b) (as := []) (envc := [(b + 1, f_reg)]) (envc' := [(b + 1, u5.2)]) (env' := [(b + 1, u5.2), (b + 3, g4)]) (rv := none) [0] (hn _ _) rfl rfl (Nat.le_of_ble_eq_true rfl) hB.1 rfl rfl rfl k8 ?_
    show RB _ _ _ _ _ [] _ _
    refine r_aload rfl ?_
    have k7 := fun (Q' : Option Int32 → mMH → Prop) hq => tX3_pop (d := d + 0) (B := B) (v := mE v [(b + 1, u5.2), (b + 3, g4)]) (w := w) (Q := Q') hB (by omega) u5.2 hq
    generalize hg_u6 : FX3_pop u5.2 = u6 at k7 hP
    try dsimp only at hP
    refine r_callV (st := []) (o := b) (as := []) (envc := [(b + 1, u5.2)]) (envc' := [(b + 1, u6.2)]) (env' := [(b + 1, u6.2), (b + 3, g4)]) (rv := none) [0] (hn _ _) rfl rfl (Nat.le_of_ble_eq_true rfl) hB.1 rfl rfl rfl k7 ?_
    show RB _ _ _ _ _ [] _ _
    refine r_int ?_
    exact r_ret rfl rfl (hPQ 1 u6.2 g4 hP)

def FX3_performOnWords (x1 : Int32) (f_reg : mF) (f_memory : mF) : Int32 × mF × mF :=
  if x1 = 10 then ((1, (upd (upd f_reg 0 ((f_reg 1) + (f_reg 0))) 1 (f_reg 2)), f_memory)) else (if x1 = 11 then ((1, (upd (upd f_reg 0 ((f_reg 1) - (f_reg 0))) 1 (f_reg 2)), f_memory)) else (if x1 = 12 then ((1, (upd (upd f_reg 0 ((f_reg 1) * (f_reg 0))) 1 (f_reg 2)), f_memory)) else (if x1 = 13 then (if (f_reg 1) ≤ (f_reg 0) then ((1, (upd (upd f_reg 0 0) 1 (f_reg 2)), f_memory)) else ((1, (upd (upd f_reg 0 1) 1 (f_reg 2)), f_memory))) else (if x1 = 14 then ((1, (upd (upd f_reg 0 (f_reg 1)) 1 (f_reg 0)), f_memory)) else (if x1 = 15 then (let u2 := FX3_push (f_reg 0) f_reg; (1, u2.2, f_memory)) else (if x1 = 16 then (let u4 := FX3_load f_reg f_memory; (u4.1, u4.2, f_memory)) else (let u7 := FX3_store f_reg f_memory; (u7.1, u7.2.1, u7.2.2))))))))
def OX3_performOnWords (x1 : Int32) (f_reg : mF) (f_memory : mF) : Prop :=
  ((x1 = 10 → True) ∧ (¬ (x1 = 10) → ((x1 = 11 → True) ∧ (¬ (x1 = 11) → ((x1 = 12 → True) ∧ (¬ (x1 = 12) → ((x1 = 13 → True) ∧ (¬ (x1 = 13) → ((x1 = 14 → True) ∧ (¬ (x1 = 14) → ((x1 = 15 → True) ∧ (¬ (x1 = 15) → ((x1 = 16 → (OX3_load f_reg f_memory ∧ (let u4 := FX3_load f_reg f_memory; u4.1 = 0 ∨ u4.1 = 1))) ∧ (¬ (x1 = 16) → (OX3_store f_reg f_memory ∧ (let u7 := FX3_store f_reg f_memory; u7.1 = 0 ∨ u7.1 = 1))))))))))))))))
set_option maxRecDepth 20000 in
theorem tX3_performOnWords {d : Nat} {B : mB} {v : mV} {w : mX} {Q : Option Int32 → mMH → Prop} {b g : Nat} (hB : isMach B b g) (hd : g + 2 ≤ b) (x1 : Int32) (f_reg : mF) (f_memory : mF) (hO : OX3_performOnWords x1 f_reg f_memory) (hQ : Q (some ((FX3_performOnWords x1 f_reg f_memory).1)) (mH B (mE v [(b + 1, (FX3_performOnWords x1 f_reg f_memory).2.1), (b + 3, (FX3_performOnWords x1 f_reg f_memory).2.2)]) w)) : CQ (d + 3) 44 [.ref b, .int x1] (mH B (mE v [(b + 1, f_reg), (b + 3, f_memory)]) w) Q := by
  have hn : ∀ (f_reg : mF) (f_memory : mF), mNd [(b + 1, f_reg), (b + 3, f_memory)] := fun _ _ => by
    show List.Nodup _
    simp only [List.map_cons, List.map_nil, List.nodup_cons, List.mem_cons, List.not_mem_nil, or_false, not_or, not_false_eq_true, List.nodup_nil, and_true]
    omega
  obtain ⟨P, hPQ, hP⟩ : ∃ P : Int32 × mF × mF → Prop, (∀ (q : Int32) (q0 : mF) (q1 : mF), P (q, q0, q1) → Q (some q) (mH B (mE v [(b + 1, q0), (b + 3, q1)]) w)) ∧ P (FX3_performOnWords x1 f_reg f_memory) := ⟨fun res => Q (some res.1) (mH B (mE v [(b + 1, res.2.1), (b + 3, res.2.2)]) w), fun _ _ _ h => h, hQ⟩
  refine r_begin mt_44 (by intro a ha; simp only [List.mem_cons, List.not_mem_nil, or_false] at ha; rcases ha with rfl | rfl <;> rfl) (Nat.le_of_ble_eq_true rfl) ?_
  rw [FX3_performOnWords] at hP
  rw [OX3_performOnWords] at hO
  show RB _ _ _ _ [some (.ref b), some (.int x1), none, none] [] _ _
  refine r_aload rfl ?_
  refine r_getr (q := b + 1) hB.1 hB.2.2.2.2.2.2.2.2.2.2.1 ?_
  refine r_int ?_
  refine r_ald (x := f_reg 0) 0 0 (hn _ _) rfl hB.2.1 (by decide) rfl (lt_in 0 20 rfl rfl) (lt_cl 0 rfl) rfl ?_
  refine r_istore (L' := [some (.ref b), some (.int x1), some (.int (f_reg 0)), none]) rfl rfl ?_
  refine r_aload rfl ?_
  refine r_getr (q := b + 1) hB.1 hB.2.2.2.2.2.2.2.2.2.2.1 ?_
  refine r_int ?_
  refine r_ald (x := f_reg 1) 0 1 (hn _ _) rfl hB.2.1 (by decide) rfl (lt_in 1 20 rfl rfl) (lt_cl 1 rfl) rfl ?_
  refine r_istore (L' := [some (.ref b), some (.int x1), some (.int (f_reg 0)), some (.int (f_reg 1))]) rfl rfl ?_
  refine r_iload rfl ?_
  by_cases c10 : x1 = 10
  · rw [if_pos c10] at hP
    have hO := hO.1 c10
    refine r_tswAt (k := 0) (b := 1) rfl (by rw [c10]; decide) ?_
    refine r_aload rfl ?_
    refine r_getr (q := b + 1) hB.1 hB.2.2.2.2.2.2.2.2.2.2.1 ?_
    refine r_int ?_
    refine r_iload rfl ?_
    refine r_iload rfl ?_
    refine r_iadd ?_
    refine r_ast (y := (f_reg 1) + (f_reg 0)) (env' := [(b + 1, (upd f_reg 0 ((f_reg 1) + (f_reg 0)))), (b + 3, f_memory)]) 0 0 (hn _ _) rfl hB.2.1 (by decide) rfl (lt_in 0 20 rfl rfl) (lt_cl 0 rfl) rfl rfl ?_
    refine r_goto ?_
    refine r_aload rfl ?_
    refine r_getr (q := b + 1) hB.1 hB.2.2.2.2.2.2.2.2.2.2.1 ?_
    refine r_int ?_
    refine r_aload rfl ?_
    refine r_getr (q := b + 1) hB.1 hB.2.2.2.2.2.2.2.2.2.2.1 ?_
    refine r_int ?_
    refine r_ald (x := f_reg 2) 0 2 (hn _ _) rfl hB.2.1 (by decide) rfl (lt_in 2 20 rfl rfl) (lt_cl 2 rfl) (pk_un (nebq rfl)) ?_
    refine r_ast (y := f_reg 2) (env' := [(b + 1, (upd (upd f_reg 0 ((f_reg 1) + (f_reg 0))) 1 (f_reg 2))), (b + 3, f_memory)]) 0 1 (hn _ _) rfl hB.2.1 (by decide) rfl (lt_in 1 20 rfl rfl) (lt_cl 1 rfl) rfl rfl ?_
    refine r_int ?_
    exact r_ret rfl rfl (hPQ 1 (upd (upd f_reg 0 ((f_reg 1) + (f_reg 0))) 1 (f_reg 2)) f_memory hP)
  · rw [if_neg c10] at hP
    have hO := hO.2 c10
    by_cases c11 : x1 = 11
    · rw [if_pos c11] at hP
      have hO := hO.1 c11
      refine r_tswAt (k := 1) (b := 2) rfl (by rw [c11]; decide) ?_
      refine r_aload rfl ?_
      refine r_getr (q := b + 1) hB.1 hB.2.2.2.2.2.2.2.2.2.2.1 ?_
      refine r_int ?_
      refine r_iload rfl ?_
      refine r_iload rfl ?_
      refine r_isub ?_
      refine r_ast (y := (f_reg 1) - (f_reg 0)) (env' := [(b + 1, (upd f_reg 0 ((f_reg 1) - (f_reg 0)))), (b + 3, f_memory)]) 0 0 (hn _ _) rfl hB.2.1 (by decide) rfl (lt_in 0 20 rfl rfl) (lt_cl 0 rfl) rfl rfl ?_
      refine r_goto ?_
      refine r_aload rfl ?_
      refine r_getr (q := b + 1) hB.1 hB.2.2.2.2.2.2.2.2.2.2.1 ?_
      refine r_int ?_
      refine r_aload rfl ?_
      refine r_getr (q := b + 1) hB.1 hB.2.2.2.2.2.2.2.2.2.2.1 ?_
      refine r_int ?_
      refine r_ald (x := f_reg 2) 0 2 (hn _ _) rfl hB.2.1 (by decide) rfl (lt_in 2 20 rfl rfl) (lt_cl 2 rfl) (pk_un (nebq rfl)) ?_
      refine r_ast (y := f_reg 2) (env' := [(b + 1, (upd (upd f_reg 0 ((f_reg 1) - (f_reg 0))) 1 (f_reg 2))), (b + 3, f_memory)]) 0 1 (hn _ _) rfl hB.2.1 (by decide) rfl (lt_in 1 20 rfl rfl) (lt_cl 1 rfl) rfl rfl ?_
      refine r_int ?_
      exact r_ret rfl rfl (hPQ 1 (upd (upd f_reg 0 ((f_reg 1) - (f_reg 0))) 1 (f_reg 2)) f_memory hP)
    · rw [if_neg c11] at hP
      have hO := hO.2 c11
      by_cases c12 : x1 = 12
      · rw [if_pos c12] at hP
        have hO := hO.1 c12
        refine r_tswAt (k := 2) (b := 3) rfl (by rw [c12]; decide) ?_
        refine r_aload rfl ?_
        refine r_getr (q := b + 1) hB.1 hB.2.2.2.2.2.2.2.2.2.2.1 ?_
        refine r_int ?_
        refine r_iload rfl ?_
        refine r_iload rfl ?_
        refine r_imul ?_
        refine r_ast (y := (f_reg 1) * (f_reg 0)) (env' := [(b + 1, (upd f_reg 0 ((f_reg 1) * (f_reg 0)))), (b + 3, f_memory)]) 0 0 (hn _ _) rfl hB.2.1 (by decide) rfl (lt_in 0 20 rfl rfl) (lt_cl 0 rfl) rfl rfl ?_
        refine r_goto ?_
        refine r_aload rfl ?_
        refine r_getr (q := b + 1) hB.1 hB.2.2.2.2.2.2.2.2.2.2.1 ?_
        refine r_int ?_
        refine r_aload rfl ?_
        refine r_getr (q := b + 1) hB.1 hB.2.2.2.2.2.2.2.2.2.2.1 ?_
        refine r_int ?_
        refine r_ald (x := f_reg 2) 0 2 (hn _ _) rfl hB.2.1 (by decide) rfl (lt_in 2 20 rfl rfl) (lt_cl 2 rfl) (pk_un (nebq rfl)) ?_
        refine r_ast (y := f_reg 2) (env' := [(b + 1, (upd (upd f_reg 0 ((f_reg 1) * (f_reg 0))) 1 (f_reg 2))), (b + 3, f_memory)]) 0 1 (hn _ _) rfl hB.2.1 (by decide) rfl (lt_in 1 20 rfl rfl) (lt_cl 1 rfl) rfl rfl ?_
        refine r_int ?_
        exact r_ret rfl rfl (hPQ 1 (upd (upd f_reg 0 ((f_reg 1) * (f_reg 0))) 1 (f_reg 2)) f_memory hP)
      · rw [if_neg c12] at hP
        have hO := hO.2 c12
        by_cases c13 : x1 = 13
        · rw [if_pos c13] at hP
          have hO := hO.1 c13
          refine r_tswAt (k := 3) (b := 4) rfl (by rw [c13]; decide) ?_
          refine r_aload rfl ?_
          refine r_getr (q := b + 1) hB.1 hB.2.2.2.2.2.2.2.2.2.2.1 ?_
          refine r_int ?_
          refine r_iload rfl ?_
          refine r_iload rfl ?_
          refine r_icmp (fun c1 : (f_reg 1) ≤ (f_reg 0) => ?_) (fun c1 : ¬ ((f_reg 1) ≤ (f_reg 0)) => ?_)
          · rw [if_pos c1] at hP
            refine r_int ?_
            refine r_fall ?_
            refine r_ast (y := 0) (env' := [(b + 1, (upd f_reg 0 0)), (b + 3, f_memory)]) 0 0 (hn _ _) rfl hB.2.1 (by decide) rfl (lt_in 0 20 rfl rfl) (lt_cl 0 rfl) rfl rfl ?_
            refine r_goto ?_
            refine r_aload rfl ?_
            refine r_getr (q := b + 1) hB.1 hB.2.2.2.2.2.2.2.2.2.2.1 ?_
            refine r_int ?_
            refine r_aload rfl ?_
            refine r_getr (q := b + 1) hB.1 hB.2.2.2.2.2.2.2.2.2.2.1 ?_
            refine r_int ?_
            refine r_ald (x := f_reg 2) 0 2 (hn _ _) rfl hB.2.1 (by decide) rfl (lt_in 2 20 rfl rfl) (lt_cl 2 rfl) (pk_un (nebq rfl)) ?_
            refine r_ast (y := f_reg 2) (env' := [(b + 1, (upd (upd f_reg 0 0) 1 (f_reg 2))), (b + 3, f_memory)]) 0 1 (hn _ _) rfl hB.2.1 (by decide) rfl (lt_in 1 20 rfl rfl) (lt_cl 1 rfl) rfl rfl ?_
            refine r_int ?_
            exact r_ret rfl rfl (hPQ 1 (upd (upd f_reg 0 0) 1 (f_reg 2)) f_memory hP)
          · rw [if_neg c1] at hP
            refine r_int ?_
            refine r_goto ?_
            refine r_ast (y := 1) (env' := [(b + 1, (upd f_reg 0 1)), (b + 3, f_memory)]) 0 0 (hn _ _) rfl hB.2.1 (by decide) rfl (lt_in 0 20 rfl rfl) (lt_cl 0 rfl) rfl rfl ?_
            refine r_goto ?_
            refine r_aload rfl ?_
            refine r_getr (q := b + 1) hB.1 hB.2.2.2.2.2.2.2.2.2.2.1 ?_
            refine r_int ?_
            refine r_aload rfl ?_
            refine r_getr (q := b + 1) hB.1 hB.2.2.2.2.2.2.2.2.2.2.1 ?_
            refine r_int ?_
            refine r_ald (x := f_reg 2) 0 2 (hn _ _) rfl hB.2.1 (by decide) rfl (lt_in 2 20 rfl rfl) (lt_cl 2 rfl) (pk_un (nebq rfl)) ?_
            refine r_ast (y := f_reg 2) (env' := [(b + 1, (upd (upd f_reg 0 1) 1 (f_reg 2))), (b + 3, f_memory)]) 0 1 (hn _ _) rfl hB.2.1 (by decide) rfl (lt_in 1 20 rfl rfl) (lt_cl 1 rfl) rfl rfl ?_
            refine r_int ?_
            exact r_ret rfl rfl (hPQ 1 (upd (upd f_reg 0 1) 1 (f_reg 2)) f_memory hP)
        · rw [if_neg c13] at hP
          have hO := hO.2 c13
          by_cases c14 : x1 = 14
          · rw [if_pos c14] at hP
            have hO := hO.1 c14
            refine r_tswAt (k := 4) (b := 7) rfl (by rw [c14]; decide) ?_
            refine r_aload rfl ?_
            refine r_getr (q := b + 1) hB.1 hB.2.2.2.2.2.2.2.2.2.2.1 ?_
            refine r_int ?_
            refine r_iload rfl ?_
            refine r_ast (y := f_reg 1) (env' := [(b + 1, (upd f_reg 0 (f_reg 1))), (b + 3, f_memory)]) 0 0 (hn _ _) rfl hB.2.1 (by decide) rfl (lt_in 0 20 rfl rfl) (lt_cl 0 rfl) rfl rfl ?_
            refine r_aload rfl ?_
            refine r_getr (q := b + 1) hB.1 hB.2.2.2.2.2.2.2.2.2.2.1 ?_
            refine r_int ?_
            refine r_iload rfl ?_
            refine r_ast (y := f_reg 0) (env' := [(b + 1, (upd (upd f_reg 0 (f_reg 1)) 1 (f_reg 0))), (b + 3, f_memory)]) 0 1 (hn _ _) rfl hB.2.1 (by decide) rfl (lt_in 1 20 rfl rfl) (lt_cl 1 rfl) rfl rfl ?_
            refine r_int ?_
            exact r_ret rfl rfl (hPQ 1 (upd (upd f_reg 0 (f_reg 1)) 1 (f_reg 0)) f_memory hP)
          · rw [if_neg c14] at hP
            have hO := hO.2 c14
            by_cases c15 : x1 = 15
            · rw [if_pos c15] at hP
              have hO := hO.1 c15
              refine r_tswAt (k := 5) (b := 8) rfl (by rw [c15]; decide) ?_
              refine r_aload rfl ?_
              refine r_iload rfl ?_
              have k3 := fun (Q' : Option Int32 → mMH → Prop) hq => tX3_push (d := d + 1) (B := B) (v := mE v [(b + 1, f_reg), (b + 3, f_memory)]) (w := w) (Q := Q') hB (by omega) (f_reg 0) f_reg hq
              generalize hg_u2 : FX3_push (f_reg 0) f_reg = u2 at k3 hP
              try dsimp only at hP
              refine r_callV (st := []) (o := b) (as := [.int (f_reg 0)]) (envc := [(b + 1, f_reg)]) (envc' := [(b + 1, u2.2)]) (env' := [(b + 1, u2.2), (b + 3, f_memory)]) (rv := none) [0] (hn _ _) rfl rfl (Nat.le_of_ble_eq_true rfl) hB.1 rfl rfl rfl k3 ?_
              show RB _ _ _ _ _ [] _ _
              refine r_int ?_
              exact r_ret rfl rfl (hPQ 1 u2.2 f_memory hP)
            · rw [if_neg c15] at hP
              have hO := hO.2 c15
              by_cases c16 : x1 = 16
              · rw [if_pos c16] at hP
                have hO := hO.1 c16
                refine r_tswAt (k := 6) (b := 9) rfl (by rw [c16]; decide) ?_
                refine r_aload rfl ?_
                obtain ⟨h5, hO⟩ := hO
                have k6 := fun (Q' : Option Int32 → mMH → Prop) hq => tX3_load (d := d + 0) (B := B) (v := mE v [(b + 1, f_reg), (b + 3, f_memory)]) (w := w) (Q := Q') hB (by omega) f_reg f_memory h5 hq
                generalize hg_u4 : FX3_load f_reg f_memory = u4 at k6 hP hO
                try dsimp only at hP hO
                refine r_callV (st := []) (o := b) (as := []) (envc := [(b + 1, f_reg), (b + 3, f_memory)]) (envc' := [(b + 1, u4.2), (b + 3, f_memory)]) (env' := [(b + 1, u4.2), (b + 3, f_memory)]) (rv := some u4.1) [0, 1] (hn _ _) rfl rfl (Nat.le_of_ble_eq_true rfl) hB.1 rfl rfl rfl k6 ?_
                show RB _ _ _ _ _ [.int u4.1] _ _
                exact r_ret rfl (nz_ok hO) (hPQ u4.1 u4.2 f_memory hP)
              · rw [if_neg c16] at hP
                have hO := hO.2 c16
                refine r_tswD (fun k hk => ?_) ?_
                · have hk : k < 7 := hk
                  rcases (show k = 0 ∨ k = 1 ∨ k = 2 ∨ k = 3 ∨ k = 4 ∨ k = 5 ∨ k = 6 by omega) with rfl | rfl | rfl | rfl | rfl | rfl | rfl
                  · rw [show (10 : Int32) + nI 0 = 10 by decide +kernel]; exact c10
                  · rw [show (10 : Int32) + nI 1 = 11 by decide +kernel]; exact c11
                  · rw [show (10 : Int32) + nI 2 = 12 by decide +kernel]; exact c12
                  · rw [show (10 : Int32) + nI 3 = 13 by decide +kernel]; exact c13
                  · rw [show (10 : Int32) + nI 4 = 14 by decide +kernel]; exact c14
                  · rw [show (10 : Int32) + nI 5 = 15 by decide +kernel]; exact c15
                  · rw [show (10 : Int32) + nI 6 = 16 by decide +kernel]; exact c16
                refine r_aload rfl ?_
                obtain ⟨h8, hO⟩ := hO
                have k9 := fun (Q' : Option Int32 → mMH → Prop) hq => tX3_store (d := d + 0) (B := B) (v := mE v [(b + 1, f_reg), (b + 3, f_memory)]) (w := w) (Q := Q') hB (by omega) f_reg f_memory h8 hq
                generalize hg_u7 : FX3_store f_reg f_memory = u7 at k9 hP hO
                try dsimp only at hP hO
                refine r_callV (st := []) (o := b) (as := []) (envc := [(b + 1, f_reg), (b + 3, f_memory)]) (envc' := [(b + 1, u7.2.1), (b + 3, u7.2.2)]) (env' := [(b + 1, u7.2.1), (b + 3, u7.2.2)]) (rv := some u7.1) [0, 1] (hn _ _) rfl rfl (Nat.le_of_ble_eq_true rfl) hB.1 rfl rfl rfl k9 ?_
                show RB _ _ _ _ _ [.int u7.1] _ _
                exact r_ret rfl (nz_ok hO) (hPQ u7.1 u7.2.1 u7.2.2 hP)

def FX3_startProcess (f_reg : mF) (f_memory : mF) : Int32 × mF × mF :=
  let u1 := FX9_isW (f_reg 0); if u1 = 0 then ((0, f_reg, f_memory)) else (let g4 := upd f_memory (((f_reg 0) - 1 : Int32).toNatClampNeg) (f_reg 1); let u5 := FX3_schedule ((2 * (f_reg 0)) + (f_reg 5)) f_reg g4; let u7 := FX3_pop u5.2.1; let u8 := FX3_pop u7.2; (1, u8.2, u5.2.2))
def OX3_startProcess (f_reg : mF) (f_memory : mF) : Prop :=
  (let u1 := FX9_isW (f_reg 0); (u1 = 0 → True) ∧ (¬ (u1 = 0) → (vp_in ((f_reg 0) - 1) 96 ∧ (let g4 := upd f_memory (((f_reg 0) - 1 : Int32).toNatClampNeg) (f_reg 1); OX3_schedule ((2 * (f_reg 0)) + (f_reg 5)) f_reg g4))))
set_option maxRecDepth 20000 in
theorem tX3_startProcess {d : Nat} {B : mB} {v : mV} {w : mX} {Q : Option Int32 → mMH → Prop} {b g : Nat} (hB : isMach B b g) (hd : g + 2 ≤ b) (f_reg : mF) (f_memory : mF) (hO : OX3_startProcess f_reg f_memory) (hQ : Q (some ((FX3_startProcess f_reg f_memory).1)) (mH B (mE v [(b + 1, (FX3_startProcess f_reg f_memory).2.1), (b + 3, (FX3_startProcess f_reg f_memory).2.2)]) w)) : CQ (d + 3) 48 [.ref b] (mH B (mE v [(b + 1, f_reg), (b + 3, f_memory)]) w) Q := by
  have hn : ∀ (f_reg : mF) (f_memory : mF), mNd [(b + 1, f_reg), (b + 3, f_memory)] := fun _ _ => by
    show List.Nodup _
    simp only [List.map_cons, List.map_nil, List.nodup_cons, List.mem_cons, List.not_mem_nil, or_false, not_or, not_false_eq_true, List.nodup_nil, and_true]
    omega
  obtain ⟨P, hPQ, hP⟩ : ∃ P : Int32 × mF × mF → Prop, (∀ (q : Int32) (q0 : mF) (q1 : mF), P (q, q0, q1) → Q (some q) (mH B (mE v [(b + 1, q0), (b + 3, q1)]) w)) ∧ P (FX3_startProcess f_reg f_memory) := ⟨fun res => Q (some res.1) (mH B (mE v [(b + 1, res.2.1), (b + 3, res.2.2)]) w), fun _ _ _ h => h, hQ⟩
  refine r_begin mt_48 (by intro a ha; simp only [List.mem_cons, List.not_mem_nil, or_false] at ha; rcases ha with rfl <;> rfl) (Nat.le_of_ble_eq_true rfl) ?_
  rw [FX3_startProcess] at hP
  rw [OX3_startProcess] at hO
  show RB _ _ _ _ [some (.ref b), none] [] _ _
  refine r_aload rfl ?_
  refine r_getr (q := b + 1) hB.1 hB.2.2.2.2.2.2.2.2.2.2.1 ?_
  refine r_int ?_
  refine r_ald (x := f_reg 0) 0 0 (hn _ _) rfl hB.2.1 (by decide) rfl (lt_in 0 20 rfl rfl) (lt_cl 0 rfl) rfl ?_
  refine r_istore (L' := [some (.ref b), some (.int (f_reg 0))]) rfl rfl ?_
  refine r_iload rfl ?_
  have k12 := fun (Q' : Option Int32 → mMH → Prop) hq => tX9_isW (d := d + 1) (B := B) (v := mE v [(b + 1, f_reg), (b + 3, f_memory)]) (w := w) (Q := Q') (f_reg 0) hq
  generalize hg_u1 : FX9_isW (f_reg 0) = u1 at k12 hP hO
  try dsimp only at hP hO
  refine r_callS (st := []) (as := [.int (f_reg 0)]) (envc := []) (envc' := []) (env' := [(b + 1, f_reg), (b + 3, f_memory)]) (rv := some u1) [] (Or.inr rfl) (hn _ _) rfl rfl (Nat.le_of_ble_eq_true rfl) rfl rfl rfl k12 ?_
  show RB _ _ _ _ _ [.int u1] _ _
  refine r_if1 (fun c2 : u1 = 0 => ?_) (fun c2 : ¬ (u1 = 0) => ?_)
  · rw [if_pos c2] at hP
    have hO := hO.1 c2
    refine r_int ?_
    exact r_ret rfl rfl (hPQ 0 f_reg f_memory hP)
  · rw [if_neg c2] at hP
    have hO := hO.2 c2
    refine r_aload rfl ?_
    refine r_getr (q := b + 3) hB.1 hB.2.2.2.2.2.2.2.2.2.2.2.2.1 ?_
    refine r_iload rfl ?_
    refine r_int ?_
    refine r_isub ?_
    refine r_aload rfl ?_
    refine r_getr (q := b + 1) hB.1 hB.2.2.2.2.2.2.2.2.2.2.1 ?_
    refine r_int ?_
    refine r_ald (x := f_reg 1) 0 1 (hn _ _) rfl hB.2.1 (by decide) rfl (lt_in 1 20 rfl rfl) (lt_cl 1 rfl) rfl ?_
    obtain ⟨h3, hO⟩ := hO
    refine r_ast (y := f_reg 1) (env' := [(b + 1, f_reg), (b + 3, (upd f_memory (((f_reg 0) - 1 : Int32).toNatClampNeg) (f_reg 1)))]) 1 (((f_reg 0) - 1 : Int32).toNatClampNeg) (hn _ _) rfl hB.2.2.2.1 (by decide) rfl h3 rfl rfl rfl ?_
    generalize hg_g4 : upd f_memory (((f_reg 0) - 1 : Int32).toNatClampNeg) (f_reg 1) = g4 at hP hO ⊢
    try dsimp only at hP hO
    refine r_aload rfl ?_
    refine r_int ?_
    refine r_iload rfl ?_
    refine r_imul ?_
    refine r_aload rfl ?_
    refine r_getr (q := b + 1) hB.1 hB.2.2.2.2.2.2.2.2.2.2.1 ?_
    refine r_int ?_
    refine r_ald (x := f_reg 5) 0 5 (hn _ _) rfl hB.2.1 (by decide) rfl (lt_in 5 20 rfl rfl) (lt_cl 5 rfl) rfl ?_
    refine r_iadd ?_
    have h6 := hO
    have k11 := fun (Q' : Option Int32 → mMH → Prop) hq => tX3_schedule (d := d + 0) (B := B) (v := mE v [(b + 1, f_reg), (b + 3, g4)]) (w := w) (Q := Q') hB (by omega) ((2 * (f_reg 0)) + (f_reg 5)) f_reg g4 h6 hq
    generalize hg_u5 : FX3_schedule ((2 * (f_reg 0)) + (f_reg 5)) f_reg g4 = u5 at k11 hP
    try dsimp only at hP
    refine r_callV (st := []) (o := b) (as := [.int ((2 * (f_reg 0)) + (f_reg 5))]) (envc := [(b + 1, f_reg), (b + 3, g4)]) (envc' := [(b + 1, u5.2.1), (b + 3, u5.2.2)]) (env' := [(b + 1, u5.2.1), (b + 3, u5.2.2)]) (rv := none) [0, 1] (hn _ _) rfl rfl (Nat.le_of_ble_eq_true rfl) hB.1 rfl rfl rfl k11 ?_
    show RB _ _ _ _ _ [] _ _
    refine r_aload rfl ?_
    have k10 := fun (Q' : Option Int32 → mMH → Prop) hq => tX3_pop (d := d + 1) (B := B) (v := mE v [(b + 1, u5.2.1), (b + 3, u5.2.2)]) (w := w) (Q := Q') hB (by omega) u5.2.1 hq
    generalize hg_u7 : FX3_pop u5.2.1 = u7 at k10 hP
    try dsimp only at hP
    refine r_callV (st := []) (o := b) (as := []) (envc := [(b + 1, u5.2.1)]) (envc' := [(b + 1, u7.2)]) (env' := [(b + 1, u7.2), (b + 3, u5.2.2)]) (rv := none) [0] (hn _ _) rfl rfl (Nat.le_of_ble_eq_true rfl) hB.1 rfl rfl rfl k10 ?_
    show RB _ _ _ _ _ [] _ _
    refine r_aload rfl ?_
    have k9 := fun (Q' : Option Int32 → mMH → Prop) hq => tX3_pop (d := d + 1) (B := B) (v := mE v [(b + 1, u7.2), (b + 3, u5.2.2)]) (w := w) (Q := Q') hB (by omega) u7.2 hq
    generalize hg_u8 : FX3_pop u7.2 = u8 at k9 hP
    try dsimp only at hP
    refine r_callV (st := []) (o := b) (as := []) (envc := [(b + 1, u7.2)]) (envc' := [(b + 1, u8.2)]) (env' := [(b + 1, u8.2), (b + 3, u5.2.2)]) (rv := none) [0] (hn _ _) rfl rfl (Nat.le_of_ble_eq_true rfl) hB.1 rfl rfl rfl k9 ?_
    show RB _ _ _ _ _ [] _ _
    refine r_int ?_
    exact r_ret rfl rfl (hPQ 1 u8.2 u5.2.2 hP)

def FX3_endProcess (f_reg : mF) (f_memory : mF) : Int32 × mF × mF :=
  let u1 := FX9_isPlace ((f_reg 0) + 1); if u1 = 0 then ((0, f_reg, f_memory)) else (if ((f_memory (((f_reg 0) + 1 : Int32).toNatClampNeg)) - 1) = 0 then (let u5 := FX9_isW (f_reg 0); if u5 = 0 then ((0, f_reg, f_memory)) else (let g8 := upd f_memory (((f_reg 0) + 1 : Int32).toNatClampNeg) ((f_memory (((f_reg 0) + 1 : Int32).toNatClampNeg)) - 1); if ((f_memory (((f_reg 0) + 1 : Int32).toNatClampNeg)) - 1) = 0 then (let u11 := FX3_clear (upd (upd f_reg 4 (f_reg 0)) 3 (g8 ((f_reg 0 : Int32).toNatClampNeg))); (1, u11.2, g8)) else ((1, (upd f_reg 4 (-1)), g8)))) else (let g15 := upd f_memory (((f_reg 0) + 1 : Int32).toNatClampNeg) ((f_memory (((f_reg 0) + 1 : Int32).toNatClampNeg)) - 1); if ((f_memory (((f_reg 0) + 1 : Int32).toNatClampNeg)) - 1) = 0 then (let u18 := FX3_clear (upd (upd f_reg 4 (f_reg 0)) 3 (g15 ((f_reg 0 : Int32).toNatClampNeg))); (1, u18.2, g15)) else ((1, (upd f_reg 4 (-1)), g15))))
def OX3_endProcess (f_reg : mF) (f_memory : mF) : Prop :=
  (let u1 := FX9_isPlace ((f_reg 0) + 1); (u1 = 0 → True) ∧ (¬ (u1 = 0) → (vp_in ((f_reg 0) + 1) 96 ∧ ((((f_memory (((f_reg 0) + 1 : Int32).toNatClampNeg)) - 1) = 0 → ((let u5 := FX9_isW (f_reg 0); (u5 = 0 → True) ∧ (¬ (u5 = 0) → (vp_in ((f_reg 0) + 1) 96 ∧ (let g8 := upd f_memory (((f_reg 0) + 1 : Int32).toNatClampNeg) ((f_memory (((f_reg 0) + 1 : Int32).toNatClampNeg)) - 1); (((f_memory (((f_reg 0) + 1 : Int32).toNatClampNeg)) - 1) = 0 → (vp_in (f_reg 0) 96)) ∧ (¬ (((f_memory (((f_reg 0) + 1 : Int32).toNatClampNeg)) - 1) = 0) → True))))))) ∧ (¬ (((f_memory (((f_reg 0) + 1 : Int32).toNatClampNeg)) - 1) = 0) → (vp_in ((f_reg 0) + 1) 96 ∧ (let g15 := upd f_memory (((f_reg 0) + 1 : Int32).toNatClampNeg) ((f_memory (((f_reg 0) + 1 : Int32).toNatClampNeg)) - 1); (((f_memory (((f_reg 0) + 1 : Int32).toNatClampNeg)) - 1) = 0 → (vp_in (f_reg 0) 96)) ∧ (¬ (((f_memory (((f_reg 0) + 1 : Int32).toNatClampNeg)) - 1) = 0) → True))))))))
set_option maxRecDepth 20000 in
theorem tX3_endProcess {d : Nat} {B : mB} {v : mV} {w : mX} {Q : Option Int32 → mMH → Prop} {b g : Nat} (hB : isMach B b g) (hd : g + 2 ≤ b) (f_reg : mF) (f_memory : mF) (hO : OX3_endProcess f_reg f_memory) (hQ : Q (some ((FX3_endProcess f_reg f_memory).1)) (mH B (mE v [(b + 1, (FX3_endProcess f_reg f_memory).2.1), (b + 3, (FX3_endProcess f_reg f_memory).2.2)]) w)) : CQ (d + 2) 49 [.ref b] (mH B (mE v [(b + 1, f_reg), (b + 3, f_memory)]) w) Q := by
  have hn : ∀ (f_reg : mF) (f_memory : mF), mNd [(b + 1, f_reg), (b + 3, f_memory)] := fun _ _ => by
    show List.Nodup _
    simp only [List.map_cons, List.map_nil, List.nodup_cons, List.mem_cons, List.not_mem_nil, or_false, not_or, not_false_eq_true, List.nodup_nil, and_true]
    omega
  obtain ⟨P, hPQ, hP⟩ : ∃ P : Int32 × mF × mF → Prop, (∀ (q : Int32) (q0 : mF) (q1 : mF), P (q, q0, q1) → Q (some q) (mH B (mE v [(b + 1, q0), (b + 3, q1)]) w)) ∧ P (FX3_endProcess f_reg f_memory) := ⟨fun res => Q (some res.1) (mH B (mE v [(b + 1, res.2.1), (b + 3, res.2.2)]) w), fun _ _ _ h => h, hQ⟩
  refine r_begin mt_49 (by intro a ha; simp only [List.mem_cons, List.not_mem_nil, or_false] at ha; rcases ha with rfl <;> rfl) (Nat.le_of_ble_eq_true rfl) ?_
  rw [FX3_endProcess] at hP
  rw [OX3_endProcess] at hO
  show RB _ _ _ _ [some (.ref b), none, none] [] _ _
  refine r_aload rfl ?_
  refine r_getr (q := b + 1) hB.1 hB.2.2.2.2.2.2.2.2.2.2.1 ?_
  refine r_int ?_
  refine r_ald (x := f_reg 0) 0 0 (hn _ _) rfl hB.2.1 (by decide) rfl (lt_in 0 20 rfl rfl) (lt_cl 0 rfl) rfl ?_
  refine r_istore (L' := [some (.ref b), some (.int (f_reg 0)), none]) rfl rfl ?_
  refine r_iload rfl ?_
  refine r_int ?_
  refine r_iadd ?_
  have k20 := fun (Q' : Option Int32 → mMH → Prop) hq => tX9_isPlace (d := d + 0) (B := B) (v := mE v [(b + 1, f_reg), (b + 3, f_memory)]) (w := w) (Q := Q') ((f_reg 0) + 1) hq
  generalize hg_u1 : FX9_isPlace ((f_reg 0) + 1) = u1 at k20 hP hO
  try dsimp only at hP hO
  refine r_callS (st := []) (as := [.int ((f_reg 0) + 1)]) (envc := []) (envc' := []) (env' := [(b + 1, f_reg), (b + 3, f_memory)]) (rv := some u1) [] (Or.inr rfl) (hn _ _) rfl rfl (Nat.le_of_ble_eq_true rfl) rfl rfl rfl k20 ?_
  show RB _ _ _ _ _ [.int u1] _ _
  refine r_if1 (fun c2 : u1 = 0 => ?_) (fun c2 : ¬ (u1 = 0) => ?_)
  · rw [if_pos c2] at hP
    have hO := hO.1 c2
    refine r_int ?_
    exact r_ret rfl rfl (hPQ 0 f_reg f_memory hP)
  · rw [if_neg c2] at hP
    have hO := hO.2 c2
    refine r_aload rfl ?_
    refine r_getr (q := b + 3) hB.1 hB.2.2.2.2.2.2.2.2.2.2.2.2.1 ?_
    refine r_iload rfl ?_
    refine r_int ?_
    refine r_iadd ?_
    obtain ⟨h3, hO⟩ := hO
    refine r_ald (x := f_memory (((f_reg 0) + 1 : Int32).toNatClampNeg)) 1 (((f_reg 0) + 1 : Int32).toNatClampNeg) (hn _ _) rfl hB.2.2.2.1 (by decide) rfl h3 rfl rfl ?_
    refine r_int ?_
    refine r_isub ?_
    refine r_istore (L' := [some (.ref b), some (.int (f_reg 0)), some (.int ((f_memory (((f_reg 0) + 1 : Int32).toNatClampNeg)) - 1))]) rfl rfl ?_
    refine r_iload rfl ?_
    refine r_if1 (fun c4 : ((f_memory (((f_reg 0) + 1 : Int32).toNatClampNeg)) - 1) = 0 => ?_) (fun c4 : ¬ (((f_memory (((f_reg 0) + 1 : Int32).toNatClampNeg)) - 1) = 0) => ?_)
    · rw [if_pos c4] at hP
      have hO := hO.1 c4
      refine r_iload rfl ?_
      have k13 := fun (Q' : Option Int32 → mMH → Prop) hq => tX9_isW (d := d + 0) (B := B) (v := mE v [(b + 1, f_reg), (b + 3, f_memory)]) (w := w) (Q := Q') (f_reg 0) hq
      generalize hg_u5 : FX9_isW (f_reg 0) = u5 at k13 hP hO
      try dsimp only at hP hO
      refine r_callS (st := []) (as := [.int (f_reg 0)]) (envc := []) (envc' := []) (env' := [(b + 1, f_reg), (b + 3, f_memory)]) (rv := some u5) [] (Or.inr rfl) (hn _ _) rfl rfl (Nat.le_of_ble_eq_true rfl) rfl rfl rfl k13 ?_
      show RB _ _ _ _ _ [.int u5] _ _
      refine r_if1 (fun c6 : u5 = 0 => ?_) (fun c6 : ¬ (u5 = 0) => ?_)
      · rw [if_pos c6] at hP
        have hO := hO.1 c6
        refine r_int ?_
        exact r_ret rfl rfl (hPQ 0 f_reg f_memory hP)
      · rw [if_neg c6] at hP
        have hO := hO.2 c6
        refine r_aload rfl ?_
        refine r_getr (q := b + 3) hB.1 hB.2.2.2.2.2.2.2.2.2.2.2.2.1 ?_
        refine r_iload rfl ?_
        refine r_int ?_
        refine r_iadd ?_
        refine r_iload rfl ?_
        obtain ⟨h7, hO⟩ := hO
        refine r_ast (y := (f_memory (((f_reg 0) + 1 : Int32).toNatClampNeg)) - 1) (env' := [(b + 1, f_reg), (b + 3, (upd f_memory (((f_reg 0) + 1 : Int32).toNatClampNeg) ((f_memory (((f_reg 0) + 1 : Int32).toNatClampNeg)) - 1)))]) 1 (((f_reg 0) + 1 : Int32).toNatClampNeg) (hn _ _) rfl hB.2.2.2.1 (by decide) rfl h7 rfl rfl rfl ?_
        generalize hg_g8 : upd f_memory (((f_reg 0) + 1 : Int32).toNatClampNeg) ((f_memory (((f_reg 0) + 1 : Int32).toNatClampNeg)) - 1) = g8 at hP hO ⊢
        try dsimp only at hP hO
        refine r_iload rfl ?_
        refine r_if1 (fun c9 : ((f_memory (((f_reg 0) + 1 : Int32).toNatClampNeg)) - 1) = 0 => ?_) (fun c9 : ¬ (((f_memory (((f_reg 0) + 1 : Int32).toNatClampNeg)) - 1) = 0) => ?_)
        · rw [if_pos c9] at hP
          have hO := hO.1 c9
          refine r_aload rfl ?_
          refine r_getr (q := b + 1) hB.1 hB.2.2.2.2.2.2.2.2.2.2.1 ?_
          refine r_int ?_
          refine r_iload rfl ?_
          refine r_ast (y := f_reg 0) (env' := [(b + 1, (upd f_reg 4 (f_reg 0))), (b + 3, g8)]) 0 4 (hn _ _) rfl hB.2.1 (by decide) rfl (lt_in 4 20 rfl rfl) (lt_cl 4 rfl) rfl rfl ?_
          refine r_aload rfl ?_
          refine r_getr (q := b + 1) hB.1 hB.2.2.2.2.2.2.2.2.2.2.1 ?_
          refine r_int ?_
          refine r_aload rfl ?_
          refine r_getr (q := b + 3) hB.1 hB.2.2.2.2.2.2.2.2.2.2.2.2.1 ?_
          refine r_iload rfl ?_
          have h10 := hO
          refine r_ald (x := g8 ((f_reg 0 : Int32).toNatClampNeg)) 1 ((f_reg 0 : Int32).toNatClampNeg) (hn _ _) rfl hB.2.2.2.1 (by decide) rfl h10 rfl rfl ?_
          refine r_ast (y := g8 ((f_reg 0 : Int32).toNatClampNeg)) (env' := [(b + 1, (upd (upd f_reg 4 (f_reg 0)) 3 (g8 ((f_reg 0 : Int32).toNatClampNeg)))), (b + 3, g8)]) 0 3 (hn _ _) rfl hB.2.1 (by decide) rfl (lt_in 3 20 rfl rfl) (lt_cl 3 rfl) rfl rfl ?_
          refine r_aload rfl ?_
          have k12 := fun (Q' : Option Int32 → mMH → Prop) hq => tX3_clear (d := d + 0) (B := B) (v := mE v [(b + 1, (upd (upd f_reg 4 (f_reg 0)) 3 (g8 ((f_reg 0 : Int32).toNatClampNeg)))), (b + 3, g8)]) (w := w) (Q := Q') hB (by omega) (upd (upd f_reg 4 (f_reg 0)) 3 (g8 ((f_reg 0 : Int32).toNatClampNeg))) hq
          generalize hg_u11 : FX3_clear (upd (upd f_reg 4 (f_reg 0)) 3 (g8 ((f_reg 0 : Int32).toNatClampNeg))) = u11 at k12 hP
          try dsimp only at hP
          refine r_callV (st := []) (o := b) (as := []) (envc := [(b + 1, (upd (upd f_reg 4 (f_reg 0)) 3 (g8 ((f_reg 0 : Int32).toNatClampNeg))))]) (envc' := [(b + 1, u11.2)]) (env' := [(b + 1, u11.2), (b + 3, g8)]) (rv := none) [0] (hn _ _) rfl rfl (Nat.le_of_ble_eq_true rfl) hB.1 rfl rfl rfl k12 ?_
          show RB _ _ _ _ _ [] _ _
          refine r_goto ?_
          refine r_int ?_
          exact r_ret rfl rfl (hPQ 1 u11.2 g8 hP)
        · rw [if_neg c9] at hP
          have hO := hO.2 c9
          refine r_aload rfl ?_
          refine r_getr (q := b + 1) hB.1 hB.2.2.2.2.2.2.2.2.2.2.1 ?_
          refine r_int ?_
          refine r_int ?_
          refine r_ast (y := (-1)) (env' := [(b + 1, (upd f_reg 4 (-1))), (b + 3, g8)]) 0 4 (hn _ _) rfl hB.2.1 (by decide) rfl (lt_in 4 20 rfl rfl) (lt_cl 4 rfl) rfl rfl ?_
          refine r_fall ?_
          refine r_int ?_
          exact r_ret rfl rfl (hPQ 1 (upd f_reg 4 (-1)) g8 hP)
    · rw [if_neg c4] at hP
      have hO := hO.2 c4
      refine r_aload rfl ?_
      refine r_getr (q := b + 3) hB.1 hB.2.2.2.2.2.2.2.2.2.2.2.2.1 ?_
      refine r_iload rfl ?_
      refine r_int ?_
      refine r_iadd ?_
      refine r_iload rfl ?_
      obtain ⟨h14, hO⟩ := hO
      refine r_ast (y := (f_memory (((f_reg 0) + 1 : Int32).toNatClampNeg)) - 1) (env' := [(b + 1, f_reg), (b + 3, (upd f_memory (((f_reg 0) + 1 : Int32).toNatClampNeg) ((f_memory (((f_reg 0) + 1 : Int32).toNatClampNeg)) - 1)))]) 1 (((f_reg 0) + 1 : Int32).toNatClampNeg) (hn _ _) rfl hB.2.2.2.1 (by decide) rfl h14 rfl rfl rfl ?_
      generalize hg_g15 : upd f_memory (((f_reg 0) + 1 : Int32).toNatClampNeg) ((f_memory (((f_reg 0) + 1 : Int32).toNatClampNeg)) - 1) = g15 at hP hO ⊢
      try dsimp only at hP hO
      refine r_iload rfl ?_
      refine r_if1 (fun c16 : ((f_memory (((f_reg 0) + 1 : Int32).toNatClampNeg)) - 1) = 0 => ?_) (fun c16 : ¬ (((f_memory (((f_reg 0) + 1 : Int32).toNatClampNeg)) - 1) = 0) => ?_)
      · rw [if_pos c16] at hP
        have hO := hO.1 c16
        refine r_aload rfl ?_
        refine r_getr (q := b + 1) hB.1 hB.2.2.2.2.2.2.2.2.2.2.1 ?_
        refine r_int ?_
        refine r_iload rfl ?_
        refine r_ast (y := f_reg 0) (env' := [(b + 1, (upd f_reg 4 (f_reg 0))), (b + 3, g15)]) 0 4 (hn _ _) rfl hB.2.1 (by decide) rfl (lt_in 4 20 rfl rfl) (lt_cl 4 rfl) rfl rfl ?_
        refine r_aload rfl ?_
        refine r_getr (q := b + 1) hB.1 hB.2.2.2.2.2.2.2.2.2.2.1 ?_
        refine r_int ?_
        refine r_aload rfl ?_
        refine r_getr (q := b + 3) hB.1 hB.2.2.2.2.2.2.2.2.2.2.2.2.1 ?_
        refine r_iload rfl ?_
        have h17 := hO
        refine r_ald (x := g15 ((f_reg 0 : Int32).toNatClampNeg)) 1 ((f_reg 0 : Int32).toNatClampNeg) (hn _ _) rfl hB.2.2.2.1 (by decide) rfl h17 rfl rfl ?_
        refine r_ast (y := g15 ((f_reg 0 : Int32).toNatClampNeg)) (env' := [(b + 1, (upd (upd f_reg 4 (f_reg 0)) 3 (g15 ((f_reg 0 : Int32).toNatClampNeg)))), (b + 3, g15)]) 0 3 (hn _ _) rfl hB.2.1 (by decide) rfl (lt_in 3 20 rfl rfl) (lt_cl 3 rfl) rfl rfl ?_
        refine r_aload rfl ?_
        have k19 := fun (Q' : Option Int32 → mMH → Prop) hq => tX3_clear (d := d + 0) (B := B) (v := mE v [(b + 1, (upd (upd f_reg 4 (f_reg 0)) 3 (g15 ((f_reg 0 : Int32).toNatClampNeg)))), (b + 3, g15)]) (w := w) (Q := Q') hB (by omega) (upd (upd f_reg 4 (f_reg 0)) 3 (g15 ((f_reg 0 : Int32).toNatClampNeg))) hq
        generalize hg_u18 : FX3_clear (upd (upd f_reg 4 (f_reg 0)) 3 (g15 ((f_reg 0 : Int32).toNatClampNeg))) = u18 at k19 hP
        try dsimp only at hP
        refine r_callV (st := []) (o := b) (as := []) (envc := [(b + 1, (upd (upd f_reg 4 (f_reg 0)) 3 (g15 ((f_reg 0 : Int32).toNatClampNeg))))]) (envc' := [(b + 1, u18.2)]) (env' := [(b + 1, u18.2), (b + 3, g15)]) (rv := none) [0] (hn _ _) rfl rfl (Nat.le_of_ble_eq_true rfl) hB.1 rfl rfl rfl k19 ?_
        show RB _ _ _ _ _ [] _ _
        refine r_goto ?_
        refine r_int ?_
        exact r_ret rfl rfl (hPQ 1 u18.2 g15 hP)
      · rw [if_neg c16] at hP
        have hO := hO.2 c16
        refine r_aload rfl ?_
        refine r_getr (q := b + 1) hB.1 hB.2.2.2.2.2.2.2.2.2.2.1 ?_
        refine r_int ?_
        refine r_int ?_
        refine r_ast (y := (-1)) (env' := [(b + 1, (upd f_reg 4 (-1))), (b + 3, g15)]) 0 4 (hn _ _) rfl hB.2.1 (by decide) rfl (lt_in 4 20 rfl rfl) (lt_cl 4 rfl) rfl rfl ?_
        refine r_fall ?_
        refine r_int ?_
        exact r_ret rfl rfl (hPQ 1 (upd f_reg 4 (-1)) g15 hP)

def FX3_runProcess (f_reg : mF) (f_memory : mF) : Int32 × mF × mF :=
  let u1 := FX9_isProcess (f_reg 0); if u1 = 0 then ((0, f_reg, f_memory)) else (let u3 := FX3_schedule (f_reg 0) f_reg f_memory; let u5 := FX3_pop u3.2.1; (1, u5.2, u3.2.2))
def OX3_runProcess (f_reg : mF) (f_memory : mF) : Prop :=
  (let u1 := FX9_isProcess (f_reg 0); (u1 = 0 → True) ∧ (¬ (u1 = 0) → (OX3_schedule (f_reg 0) f_reg f_memory)))
set_option maxRecDepth 20000 in
theorem tX3_runProcess {d : Nat} {B : mB} {v : mV} {w : mX} {Q : Option Int32 → mMH → Prop} {b g : Nat} (hB : isMach B b g) (hd : g + 2 ≤ b) (f_reg : mF) (f_memory : mF) (hO : OX3_runProcess f_reg f_memory) (hQ : Q (some ((FX3_runProcess f_reg f_memory).1)) (mH B (mE v [(b + 1, (FX3_runProcess f_reg f_memory).2.1), (b + 3, (FX3_runProcess f_reg f_memory).2.2)]) w)) : CQ (d + 3) 50 [.ref b] (mH B (mE v [(b + 1, f_reg), (b + 3, f_memory)]) w) Q := by
  have hn : ∀ (f_reg : mF) (f_memory : mF), mNd [(b + 1, f_reg), (b + 3, f_memory)] := fun _ _ => by
    show List.Nodup _
    simp only [List.map_cons, List.map_nil, List.nodup_cons, List.mem_cons, List.not_mem_nil, or_false, not_or, not_false_eq_true, List.nodup_nil, and_true]
    omega
  obtain ⟨P, hPQ, hP⟩ : ∃ P : Int32 × mF × mF → Prop, (∀ (q : Int32) (q0 : mF) (q1 : mF), P (q, q0, q1) → Q (some q) (mH B (mE v [(b + 1, q0), (b + 3, q1)]) w)) ∧ P (FX3_runProcess f_reg f_memory) := ⟨fun res => Q (some res.1) (mH B (mE v [(b + 1, res.2.1), (b + 3, res.2.2)]) w), fun _ _ _ h => h, hQ⟩
  refine r_begin mt_50 (by intro a ha; simp only [List.mem_cons, List.not_mem_nil, or_false] at ha; rcases ha with rfl <;> rfl) (Nat.le_of_ble_eq_true rfl) ?_
  rw [FX3_runProcess] at hP
  rw [OX3_runProcess] at hO
  show RB _ _ _ _ [some (.ref b)] [] _ _
  refine r_aload rfl ?_
  refine r_getr (q := b + 1) hB.1 hB.2.2.2.2.2.2.2.2.2.2.1 ?_
  refine r_int ?_
  refine r_ald (x := f_reg 0) 0 0 (hn _ _) rfl hB.2.1 (by decide) rfl (lt_in 0 20 rfl rfl) (lt_cl 0 rfl) rfl ?_
  have k8 := fun (Q' : Option Int32 → mMH → Prop) hq => tX9_isProcess (d := d + 1) (B := B) (v := mE v [(b + 1, f_reg), (b + 3, f_memory)]) (w := w) (Q := Q') (f_reg 0) hq
  generalize hg_u1 : FX9_isProcess (f_reg 0) = u1 at k8 hP hO
  try dsimp only at hP hO
  refine r_callS (st := []) (as := [.int (f_reg 0)]) (envc := []) (envc' := []) (env' := [(b + 1, f_reg), (b + 3, f_memory)]) (rv := some u1) [] (Or.inr rfl) (hn _ _) rfl rfl (Nat.le_of_ble_eq_true rfl) rfl rfl rfl k8 ?_
  show RB _ _ _ _ _ [.int u1] _ _
  refine r_if1 (fun c2 : u1 = 0 => ?_) (fun c2 : ¬ (u1 = 0) => ?_)
  · rw [if_pos c2] at hP
    have hO := hO.1 c2
    refine r_int ?_
    exact r_ret rfl rfl (hPQ 0 f_reg f_memory hP)
  · rw [if_neg c2] at hP
    have hO := hO.2 c2
    refine r_aload rfl ?_
    refine r_aload rfl ?_
    refine r_getr (q := b + 1) hB.1 hB.2.2.2.2.2.2.2.2.2.2.1 ?_
    refine r_int ?_
    refine r_ald (x := f_reg 0) 0 0 (hn _ _) rfl hB.2.1 (by decide) rfl (lt_in 0 20 rfl rfl) (lt_cl 0 rfl) rfl ?_
    have h4 := hO
    have k7 := fun (Q' : Option Int32 → mMH → Prop) hq => tX3_schedule (d := d + 0) (B := B) (v := mE v [(b + 1, f_reg), (b + 3, f_memory)]) (w := w) (Q := Q') hB (by omega) (f_reg 0) f_reg f_memory h4 hq
    generalize hg_u3 : FX3_schedule (f_reg 0) f_reg f_memory = u3 at k7 hP
    try dsimp only at hP
    refine r_callV (st := []) (o := b) (as := [.int (f_reg 0)]) (envc := [(b + 1, f_reg), (b + 3, f_memory)]) (envc' := [(b + 1, u3.2.1), (b + 3, u3.2.2)]) (env' := [(b + 1, u3.2.1), (b + 3, u3.2.2)]) (rv := none) [0, 1] (hn _ _) rfl rfl (Nat.le_of_ble_eq_true rfl) hB.1 rfl rfl rfl k7 ?_
    show RB _ _ _ _ _ [] _ _
    refine r_aload rfl ?_
    have k6 := fun (Q' : Option Int32 → mMH → Prop) hq => tX3_pop (d := d + 1) (B := B) (v := mE v [(b + 1, u3.2.1), (b + 3, u3.2.2)]) (w := w) (Q := Q') hB (by omega) u3.2.1 hq
    generalize hg_u5 : FX3_pop u3.2.1 = u5 at k6 hP
    try dsimp only at hP
    refine r_callV (st := []) (o := b) (as := []) (envc := [(b + 1, u3.2.1)]) (envc' := [(b + 1, u5.2)]) (env' := [(b + 1, u5.2), (b + 3, u3.2.2)]) (rv := none) [0] (hn _ _) rfl rfl (Nat.le_of_ble_eq_true rfl) hB.1 rfl rfl rfl k6 ?_
    show RB _ _ _ _ _ [] _ _
    refine r_int ?_
    exact r_ret rfl rfl (hPQ 1 u5.2 u3.2.2 hP)

def FX3_waitForTime (f_reg : mF) (f_memory : mF) (f_timers : mF) (f_timers_process : mF) (f_timers_time : mF) (f_timers_isBy : mF) : Int32 × mF × mF × mF × mF × mF × mF :=
  let u1 := FX9_isAfter (f_reg 18) (f_reg 0); if u1 = 0 then (let u3 := FX6_isFull f_timers; if u3 = 0 then (let u5 := FX3_own f_reg; let u6 := FX6_put u5 (f_reg 0) 0 f_timers f_timers_process f_timers_time f_timers_isBy; let u8 := FX3_goOff f_reg f_memory; let u10 := FX3_clear u8.2.1; (1, u10.2, u8.2.2, u6.2.1, u6.2.2.1, u6.2.2.2.1, u6.2.2.2.2)) else ((0, f_reg, f_memory, f_timers, f_timers_process, f_timers_time, f_timers_isBy))) else (let u16 := FX3_clear f_reg; (1, u16.2, f_memory, f_timers, f_timers_process, f_timers_time, f_timers_isBy))
def OX3_waitForTime (f_reg : mF) (f_memory : mF) (f_timers : mF) (f_timers_process : mF) (f_timers_time : mF) (f_timers_isBy : mF) : Prop :=
  (let u1 := FX9_isAfter (f_reg 18) (f_reg 0); (u1 = 0 → ((let u3 := FX6_isFull f_timers; (u3 = 0 → ((let u5 := FX3_own f_reg; OX6_put u5 (f_reg 0) 0 f_timers f_timers_process f_timers_time f_timers_isBy ∧ (let u6 := FX6_put u5 (f_reg 0) 0 f_timers f_timers_process f_timers_time f_timers_isBy; OX3_goOff f_reg f_memory)))) ∧ (¬ (u3 = 0) → True)))) ∧ (¬ (u1 = 0) → True))
set_option maxRecDepth 20000 in
theorem tX3_waitForTime {d : Nat} {B : mB} {v : mV} {w : mX} {Q : Option Int32 → mMH → Prop} {b g : Nat} (hB : isMach B b g) (hd : g + 2 ≤ b) (f_reg : mF) (f_memory : mF) (f_timers : mF) (f_timers_process : mF) (f_timers_time : mF) (f_timers_isBy : mF) (hO : OX3_waitForTime f_reg f_memory f_timers f_timers_process f_timers_time f_timers_isBy) (hQ : Q (some ((FX3_waitForTime f_reg f_memory f_timers f_timers_process f_timers_time f_timers_isBy).1)) (mH B (mE v [(b + 1, (FX3_waitForTime f_reg f_memory f_timers f_timers_process f_timers_time f_timers_isBy).2.1), (b + 3, (FX3_waitForTime f_reg f_memory f_timers f_timers_process f_timers_time f_timers_isBy).2.2.1), (b + 4, (FX3_waitForTime f_reg f_memory f_timers f_timers_process f_timers_time f_timers_isBy).2.2.2.1), (b + 4 + 1, (FX3_waitForTime f_reg f_memory f_timers f_timers_process f_timers_time f_timers_isBy).2.2.2.2.1), (b + 4 + 2, (FX3_waitForTime f_reg f_memory f_timers f_timers_process f_timers_time f_timers_isBy).2.2.2.2.2.1), (b + 4 + 3, (FX3_waitForTime f_reg f_memory f_timers f_timers_process f_timers_time f_timers_isBy).2.2.2.2.2.2)]) w)) : CQ (d + 3) 51 [.ref b] (mH B (mE v [(b + 1, f_reg), (b + 3, f_memory), (b + 4, f_timers), (b + 4 + 1, f_timers_process), (b + 4 + 2, f_timers_time), (b + 4 + 3, f_timers_isBy)]) w) Q := by
  have hn : ∀ (f_reg : mF) (f_memory : mF) (f_timers : mF) (f_timers_process : mF) (f_timers_time : mF) (f_timers_isBy : mF), mNd [(b + 1, f_reg), (b + 3, f_memory), (b + 4, f_timers), (b + 4 + 1, f_timers_process), (b + 4 + 2, f_timers_time), (b + 4 + 3, f_timers_isBy)] := fun _ _ _ _ _ _ => by
    show List.Nodup _
    simp only [List.map_cons, List.map_nil, List.nodup_cons, List.mem_cons, List.not_mem_nil, or_false, not_or, not_false_eq_true, List.nodup_nil, and_true]
    omega
  obtain ⟨P, hPQ, hP⟩ : ∃ P : Int32 × mF × mF × mF × mF × mF × mF → Prop, (∀ (q : Int32) (q0 : mF) (q1 : mF) (q2 : mF) (q3 : mF) (q4 : mF) (q5 : mF), P (q, q0, q1, q2, q3, q4, q5) → Q (some q) (mH B (mE v [(b + 1, q0), (b + 3, q1), (b + 4, q2), (b + 4 + 1, q3), (b + 4 + 2, q4), (b + 4 + 3, q5)]) w)) ∧ P (FX3_waitForTime f_reg f_memory f_timers f_timers_process f_timers_time f_timers_isBy) := ⟨fun res => Q (some res.1) (mH B (mE v [(b + 1, res.2.1), (b + 3, res.2.2.1), (b + 4, res.2.2.2.1), (b + 4 + 1, res.2.2.2.2.1), (b + 4 + 2, res.2.2.2.2.2.1), (b + 4 + 3, res.2.2.2.2.2.2)]) w), fun _ _ _ _ _ _ _ h => h, hQ⟩
  refine r_begin mt_51 (by intro a ha; simp only [List.mem_cons, List.not_mem_nil, or_false] at ha; rcases ha with rfl <;> rfl) (Nat.le_of_ble_eq_true rfl) ?_
  rw [FX3_waitForTime] at hP
  rw [OX3_waitForTime] at hO
  show RB _ _ _ _ [some (.ref b)] [] _ _
  refine r_aload rfl ?_
  refine r_getr (q := b + 1) hB.1 hB.2.2.2.2.2.2.2.2.2.2.1 ?_
  refine r_int ?_
  refine r_ald (x := f_reg 18) 0 18 (hn _ _ _ _ _ _) rfl hB.2.1 (by decide) rfl (lt_in 18 20 rfl rfl) (lt_cl 18 rfl) rfl ?_
  refine r_aload rfl ?_
  refine r_getr (q := b + 1) hB.1 hB.2.2.2.2.2.2.2.2.2.2.1 ?_
  refine r_int ?_
  refine r_ald (x := f_reg 0) 0 0 (hn _ _ _ _ _ _) rfl hB.2.1 (by decide) rfl (lt_in 0 20 rfl rfl) (lt_cl 0 rfl) rfl ?_
  have k18 := fun (Q' : Option Int32 → mMH → Prop) hq => tX9_isAfter (d := d + 1) (B := B) (v := mE v [(b + 1, f_reg), (b + 3, f_memory), (b + 4, f_timers), (b + 4 + 1, f_timers_process), (b + 4 + 2, f_timers_time), (b + 4 + 3, f_timers_isBy)]) (w := w) (Q := Q') (f_reg 18) (f_reg 0) hq
  generalize hg_u1 : FX9_isAfter (f_reg 18) (f_reg 0) = u1 at k18 hP hO
  try dsimp only at hP hO
  refine r_callS (st := []) (as := [.int (f_reg 18), .int (f_reg 0)]) (envc := []) (envc' := []) (env' := [(b + 1, f_reg), (b + 3, f_memory), (b + 4, f_timers), (b + 4 + 1, f_timers_process), (b + 4 + 2, f_timers_time), (b + 4 + 3, f_timers_isBy)]) (rv := some u1) [] (Or.inr rfl) (hn _ _ _ _ _ _) rfl rfl (Nat.le_of_ble_eq_true rfl) rfl rfl rfl k18 ?_
  show RB _ _ _ _ _ [.int u1] _ _
  refine r_if1 (fun c2 : u1 = 0 => ?_) (fun c2 : ¬ (u1 = 0) => ?_)
  · rw [if_pos c2] at hP
    have hO := hO.1 c2
    refine r_aload rfl ?_
    refine r_getr (q := b + 4) hB.1 hB.2.2.2.2.2.2.2.2.2.2.2.2.2.1 ?_
    have k15 := fun (Q' : Option Int32 → mMH → Prop) hq => tX6_isFull (d := d + 1) (B := B) (v := mE v [(b + 1, f_reg), (b + 3, f_memory), (b + 4, f_timers), (b + 4 + 1, f_timers_process), (b + 4 + 2, f_timers_time), (b + 4 + 3, f_timers_isBy)]) (w := w) (Q := Q') hB.2.2.2.2.2.1 f_timers hq
    generalize hg_u3 : FX6_isFull f_timers = u3 at k15 hP hO
    try dsimp only at hP hO
    refine r_callV (st := []) (o := b + 4) (as := []) (envc := [(b + 4, f_timers)]) (envc' := [(b + 4, f_timers)]) (env' := [(b + 1, f_reg), (b + 3, f_memory), (b + 4, f_timers), (b + 4 + 1, f_timers_process), (b + 4 + 2, f_timers_time), (b + 4 + 3, f_timers_isBy)]) (rv := some u3) [2] (hn _ _ _ _ _ _) rfl rfl (Nat.le_of_ble_eq_true rfl) hB.2.2.2.2.2.1.1 rfl rfl rfl k15 ?_
    show RB _ _ _ _ _ [.int u3] _ _
    refine r_if (fun c4 : u3 = 0 => ?_) (fun c4 : ¬ (u3 = 0) => ?_)
    · rw [if_pos c4] at hP
      have hO := hO.1 c4
      refine r_aload rfl ?_
      refine r_getr (q := b + 4) hB.1 hB.2.2.2.2.2.2.2.2.2.2.2.2.2.1 ?_
      refine r_aload rfl ?_
      have k14 := fun (Q' : Option Int32 → mMH → Prop) hq => tX3_own (d := d + 1) (B := B) (v := mE v [(b + 1, f_reg), (b + 3, f_memory), (b + 4, f_timers), (b + 4 + 1, f_timers_process), (b + 4 + 2, f_timers_time), (b + 4 + 3, f_timers_isBy)]) (w := w) (Q := Q') hB (by omega) f_reg hq
      generalize hg_u5 : FX3_own f_reg = u5 at k14 hP hO
      try dsimp only at hP hO
      refine r_callV (st := [.ref (b + 4)]) (o := b) (as := []) (envc := [(b + 1, f_reg)]) (envc' := [(b + 1, f_reg)]) (env' := [(b + 1, f_reg), (b + 3, f_memory), (b + 4, f_timers), (b + 4 + 1, f_timers_process), (b + 4 + 2, f_timers_time), (b + 4 + 3, f_timers_isBy)]) (rv := some u5) [0] (hn _ _ _ _ _ _) rfl rfl (Nat.le_of_ble_eq_true rfl) hB.1 rfl rfl rfl k14 ?_
      show RB _ _ _ _ _ [.int u5, .ref (b + 4)] _ _
      refine r_aload rfl ?_
      refine r_getr (q := b + 1) hB.1 hB.2.2.2.2.2.2.2.2.2.2.1 ?_
      refine r_int ?_
      refine r_ald (x := f_reg 0) 0 0 (hn _ _ _ _ _ _) rfl hB.2.1 (by decide) rfl (lt_in 0 20 rfl rfl) (lt_cl 0 rfl) rfl ?_
      refine r_int ?_
      obtain ⟨h7, hO⟩ := hO
      have k13 := fun (Q' : Option Int32 → mMH → Prop) hq => tX6_put (d := d + 0) (B := B) (v := mE v [(b + 1, f_reg), (b + 3, f_memory), (b + 4, f_timers), (b + 4 + 1, f_timers_process), (b + 4 + 2, f_timers_time), (b + 4 + 3, f_timers_isBy)]) (w := w) (Q := Q') hB.2.2.2.2.2.1 u5 (f_reg 0) 0 f_timers f_timers_process f_timers_time f_timers_isBy h7 hq
      generalize hg_u6 : FX6_put u5 (f_reg 0) 0 f_timers f_timers_process f_timers_time f_timers_isBy = u6 at k13 hP hO
      try dsimp only at hP hO
      refine r_callV (st := []) (o := b + 4) (as := [.int u5, .int (f_reg 0), .int 0]) (envc := [(b + 4, f_timers), (b + 4 + 1, f_timers_process), (b + 4 + 2, f_timers_time), (b + 4 + 3, f_timers_isBy)]) (envc' := [(b + 4, u6.2.1), (b + 4 + 1, u6.2.2.1), (b + 4 + 2, u6.2.2.2.1), (b + 4 + 3, u6.2.2.2.2)]) (env' := [(b + 1, f_reg), (b + 3, f_memory), (b + 4, u6.2.1), (b + 4 + 1, u6.2.2.1), (b + 4 + 2, u6.2.2.2.1), (b + 4 + 3, u6.2.2.2.2)]) (rv := none) [2, 3, 4, 5] (hn _ _ _ _ _ _) rfl rfl (Nat.le_of_ble_eq_true rfl) hB.2.2.2.2.2.1.1 rfl rfl rfl k13 ?_
      show RB _ _ _ _ _ [] _ _
      refine r_aload rfl ?_
      have h9 := hO
      have k12 := fun (Q' : Option Int32 → mMH → Prop) hq => tX3_goOff (d := d + 1) (B := B) (v := mE v [(b + 1, f_reg), (b + 3, f_memory), (b + 4, u6.2.1), (b + 4 + 1, u6.2.2.1), (b + 4 + 2, u6.2.2.2.1), (b + 4 + 3, u6.2.2.2.2)]) (w := w) (Q := Q') hB (by omega) f_reg f_memory h9 hq
      generalize hg_u8 : FX3_goOff f_reg f_memory = u8 at k12 hP
      try dsimp only at hP
      refine r_callV (st := []) (o := b) (as := []) (envc := [(b + 1, f_reg), (b + 3, f_memory)]) (envc' := [(b + 1, u8.2.1), (b + 3, u8.2.2)]) (env' := [(b + 1, u8.2.1), (b + 3, u8.2.2), (b + 4, u6.2.1), (b + 4 + 1, u6.2.2.1), (b + 4 + 2, u6.2.2.2.1), (b + 4 + 3, u6.2.2.2.2)]) (rv := none) [0, 1] (hn _ _ _ _ _ _) rfl rfl (Nat.le_of_ble_eq_true rfl) hB.1 rfl rfl rfl k12 ?_
      show RB _ _ _ _ _ [] _ _
      refine r_fall ?_
      refine r_aload rfl ?_
      have k11 := fun (Q' : Option Int32 → mMH → Prop) hq => tX3_clear (d := d + 1) (B := B) (v := mE v [(b + 1, u8.2.1), (b + 3, u8.2.2), (b + 4, u6.2.1), (b + 4 + 1, u6.2.2.1), (b + 4 + 2, u6.2.2.2.1), (b + 4 + 3, u6.2.2.2.2)]) (w := w) (Q := Q') hB (by omega) u8.2.1 hq
      generalize hg_u10 : FX3_clear u8.2.1 = u10 at k11 hP
      try dsimp only at hP
      refine r_callV (st := []) (o := b) (as := []) (envc := [(b + 1, u8.2.1)]) (envc' := [(b + 1, u10.2)]) (env' := [(b + 1, u10.2), (b + 3, u8.2.2), (b + 4, u6.2.1), (b + 4 + 1, u6.2.2.1), (b + 4 + 2, u6.2.2.2.1), (b + 4 + 3, u6.2.2.2.2)]) (rv := none) [0] (hn _ _ _ _ _ _) rfl rfl (Nat.le_of_ble_eq_true rfl) hB.1 rfl rfl rfl k11 ?_
      show RB _ _ _ _ _ [] _ _
      refine r_int ?_
      exact r_ret rfl rfl (hPQ 1 u10.2 u8.2.2 u6.2.1 u6.2.2.1 u6.2.2.2.1 u6.2.2.2.2 hP)
    · rw [if_neg c4] at hP
      have hO := hO.2 c4
      refine r_int ?_
      exact r_ret rfl rfl (hPQ 0 f_reg f_memory f_timers f_timers_process f_timers_time f_timers_isBy hP)
  · rw [if_neg c2] at hP
    have hO := hO.2 c2
    refine r_aload rfl ?_
    have k17 := fun (Q' : Option Int32 → mMH → Prop) hq => tX3_clear (d := d + 1) (B := B) (v := mE v [(b + 1, f_reg), (b + 3, f_memory), (b + 4, f_timers), (b + 4 + 1, f_timers_process), (b + 4 + 2, f_timers_time), (b + 4 + 3, f_timers_isBy)]) (w := w) (Q := Q') hB (by omega) f_reg hq
    generalize hg_u16 : FX3_clear f_reg = u16 at k17 hP
    try dsimp only at hP
    refine r_callV (st := []) (o := b) (as := []) (envc := [(b + 1, f_reg)]) (envc' := [(b + 1, u16.2)]) (env' := [(b + 1, u16.2), (b + 3, f_memory), (b + 4, f_timers), (b + 4 + 1, f_timers_process), (b + 4 + 2, f_timers_time), (b + 4 + 3, f_timers_isBy)]) (rv := none) [0] (hn _ _ _ _ _ _) rfl rfl (Nat.le_of_ble_eq_true rfl) hB.1 rfl rfl rfl k17 ?_
    show RB _ _ _ _ _ [] _ _
    refine r_int ?_
    exact r_ret rfl rfl (hPQ 1 u16.2 f_memory f_timers f_timers_process f_timers_time f_timers_isBy hP)

def FX3_performOnProcesses (x1 : Int32) (f_reg : mF) (f_memory : mF) (f_timers : mF) (f_timers_process : mF) (f_timers_time : mF) (f_timers_isBy : mF) : Int32 × mF × mF × mF × mF × mF × mF :=
  if x1 = 18 then (let u1 := FX3_startProcess f_reg f_memory; (u1.1, u1.2.1, u1.2.2, f_timers, f_timers_process, f_timers_time, f_timers_isBy)) else (if x1 = 19 then (let u4 := FX3_endProcess f_reg f_memory; (u4.1, u4.2.1, u4.2.2, f_timers, f_timers_process, f_timers_time, f_timers_isBy)) else (if x1 = 20 then (let u7 := FX3_goOff f_reg f_memory; (1, u7.2.1, u7.2.2, f_timers, f_timers_process, f_timers_time, f_timers_isBy)) else (if x1 = 21 then (let u10 := FX3_runProcess f_reg f_memory; (u10.1, u10.2.1, u10.2.2, f_timers, f_timers_process, f_timers_time, f_timers_isBy)) else (if x1 = 22 then (let u13 := FX3_push (f_reg 5) f_reg; (1, u13.2, f_memory, f_timers, f_timers_process, f_timers_time, f_timers_isBy)) else (if x1 = 23 then (let u15 := FX3_push (f_reg 18) f_reg; (1, u15.2, f_memory, f_timers, f_timers_process, f_timers_time, f_timers_isBy)) else (if x1 = 24 then (let u17 := FX3_waitForTime f_reg f_memory f_timers f_timers_process f_timers_time f_timers_isBy; (u17.1, u17.2.1, u17.2.2.1, u17.2.2.2.1, u17.2.2.2.2.1, u17.2.2.2.2.2.1, u17.2.2.2.2.2.2)) else ((0, f_reg, f_memory, f_timers, f_timers_process, f_timers_time, f_timers_isBy))))))))
def OX3_performOnProcesses (x1 : Int32) (f_reg : mF) (f_memory : mF) (f_timers : mF) (f_timers_process : mF) (f_timers_time : mF) (f_timers_isBy : mF) : Prop :=
  ((x1 = 18 → (OX3_startProcess f_reg f_memory ∧ (let u1 := FX3_startProcess f_reg f_memory; u1.1 = 0 ∨ u1.1 = 1))) ∧ (¬ (x1 = 18) → ((x1 = 19 → (OX3_endProcess f_reg f_memory ∧ (let u4 := FX3_endProcess f_reg f_memory; u4.1 = 0 ∨ u4.1 = 1))) ∧ (¬ (x1 = 19) → ((x1 = 20 → (OX3_goOff f_reg f_memory)) ∧ (¬ (x1 = 20) → ((x1 = 21 → (OX3_runProcess f_reg f_memory ∧ (let u10 := FX3_runProcess f_reg f_memory; u10.1 = 0 ∨ u10.1 = 1))) ∧ (¬ (x1 = 21) → ((x1 = 22 → True) ∧ (¬ (x1 = 22) → ((x1 = 23 → True) ∧ (¬ (x1 = 23) → ((x1 = 24 → (OX3_waitForTime f_reg f_memory f_timers f_timers_process f_timers_time f_timers_isBy ∧ (let u17 := FX3_waitForTime f_reg f_memory f_timers f_timers_process f_timers_time f_timers_isBy; u17.1 = 0 ∨ u17.1 = 1))) ∧ (¬ (x1 = 24) → True))))))))))))))
set_option maxRecDepth 20000 in
theorem tX3_performOnProcesses {d : Nat} {B : mB} {v : mV} {w : mX} {Q : Option Int32 → mMH → Prop} {b g : Nat} (hB : isMach B b g) (hd : g + 2 ≤ b) (x1 : Int32) (f_reg : mF) (f_memory : mF) (f_timers : mF) (f_timers_process : mF) (f_timers_time : mF) (f_timers_isBy : mF) (hO : OX3_performOnProcesses x1 f_reg f_memory f_timers f_timers_process f_timers_time f_timers_isBy) (hQ : Q (some ((FX3_performOnProcesses x1 f_reg f_memory f_timers f_timers_process f_timers_time f_timers_isBy).1)) (mH B (mE v [(b + 1, (FX3_performOnProcesses x1 f_reg f_memory f_timers f_timers_process f_timers_time f_timers_isBy).2.1), (b + 3, (FX3_performOnProcesses x1 f_reg f_memory f_timers f_timers_process f_timers_time f_timers_isBy).2.2.1), (b + 4, (FX3_performOnProcesses x1 f_reg f_memory f_timers f_timers_process f_timers_time f_timers_isBy).2.2.2.1), (b + 4 + 1, (FX3_performOnProcesses x1 f_reg f_memory f_timers f_timers_process f_timers_time f_timers_isBy).2.2.2.2.1), (b + 4 + 2, (FX3_performOnProcesses x1 f_reg f_memory f_timers f_timers_process f_timers_time f_timers_isBy).2.2.2.2.2.1), (b + 4 + 3, (FX3_performOnProcesses x1 f_reg f_memory f_timers f_timers_process f_timers_time f_timers_isBy).2.2.2.2.2.2)]) w)) : CQ (d + 4) 47 [.ref b, .int x1] (mH B (mE v [(b + 1, f_reg), (b + 3, f_memory), (b + 4, f_timers), (b + 4 + 1, f_timers_process), (b + 4 + 2, f_timers_time), (b + 4 + 3, f_timers_isBy)]) w) Q := by
  have hn : ∀ (f_reg : mF) (f_memory : mF) (f_timers : mF) (f_timers_process : mF) (f_timers_time : mF) (f_timers_isBy : mF), mNd [(b + 1, f_reg), (b + 3, f_memory), (b + 4, f_timers), (b + 4 + 1, f_timers_process), (b + 4 + 2, f_timers_time), (b + 4 + 3, f_timers_isBy)] := fun _ _ _ _ _ _ => by
    show List.Nodup _
    simp only [List.map_cons, List.map_nil, List.nodup_cons, List.mem_cons, List.not_mem_nil, or_false, not_or, not_false_eq_true, List.nodup_nil, and_true]
    omega
  obtain ⟨P, hPQ, hP⟩ : ∃ P : Int32 × mF × mF × mF × mF × mF × mF → Prop, (∀ (q : Int32) (q0 : mF) (q1 : mF) (q2 : mF) (q3 : mF) (q4 : mF) (q5 : mF), P (q, q0, q1, q2, q3, q4, q5) → Q (some q) (mH B (mE v [(b + 1, q0), (b + 3, q1), (b + 4, q2), (b + 4 + 1, q3), (b + 4 + 2, q4), (b + 4 + 3, q5)]) w)) ∧ P (FX3_performOnProcesses x1 f_reg f_memory f_timers f_timers_process f_timers_time f_timers_isBy) := ⟨fun res => Q (some res.1) (mH B (mE v [(b + 1, res.2.1), (b + 3, res.2.2.1), (b + 4, res.2.2.2.1), (b + 4 + 1, res.2.2.2.2.1), (b + 4 + 2, res.2.2.2.2.2.1), (b + 4 + 3, res.2.2.2.2.2.2)]) w), fun _ _ _ _ _ _ _ h => h, hQ⟩
  refine r_begin mt_47 (by intro a ha; simp only [List.mem_cons, List.not_mem_nil, or_false] at ha; rcases ha with rfl | rfl <;> rfl) (Nat.le_of_ble_eq_true rfl) ?_
  rw [FX3_performOnProcesses] at hP
  rw [OX3_performOnProcesses] at hO
  show RB _ _ _ _ [some (.ref b), some (.int x1)] [] _ _
  refine r_iload rfl ?_
  by_cases c20 : x1 = 18
  · rw [if_pos c20] at hP
    have hO := hO.1 c20
    refine r_tswAt (k := 0) (b := 1) rfl (by rw [c20]; decide) ?_
    refine r_aload rfl ?_
    obtain ⟨h2, hO⟩ := hO
    have k3 := fun (Q' : Option Int32 → mMH → Prop) hq => tX3_startProcess (d := d + 0) (B := B) (v := mE v [(b + 1, f_reg), (b + 3, f_memory), (b + 4, f_timers), (b + 4 + 1, f_timers_process), (b + 4 + 2, f_timers_time), (b + 4 + 3, f_timers_isBy)]) (w := w) (Q := Q') hB (by omega) f_reg f_memory h2 hq
    generalize hg_u1 : FX3_startProcess f_reg f_memory = u1 at k3 hP hO
    try dsimp only at hP hO
    refine r_callV (st := []) (o := b) (as := []) (envc := [(b + 1, f_reg), (b + 3, f_memory)]) (envc' := [(b + 1, u1.2.1), (b + 3, u1.2.2)]) (env' := [(b + 1, u1.2.1), (b + 3, u1.2.2), (b + 4, f_timers), (b + 4 + 1, f_timers_process), (b + 4 + 2, f_timers_time), (b + 4 + 3, f_timers_isBy)]) (rv := some u1.1) [0, 1] (hn _ _ _ _ _ _) rfl rfl (Nat.le_of_ble_eq_true rfl) hB.1 rfl rfl rfl k3 ?_
    show RB _ _ _ _ _ [.int u1.1] _ _
    exact r_ret rfl (nz_ok hO) (hPQ u1.1 u1.2.1 u1.2.2 f_timers f_timers_process f_timers_time f_timers_isBy hP)
  · rw [if_neg c20] at hP
    have hO := hO.2 c20
    by_cases c21 : x1 = 19
    · rw [if_pos c21] at hP
      have hO := hO.1 c21
      refine r_tswAt (k := 1) (b := 2) rfl (by rw [c21]; decide) ?_
      refine r_aload rfl ?_
      obtain ⟨h5, hO⟩ := hO
      have k6 := fun (Q' : Option Int32 → mMH → Prop) hq => tX3_endProcess (d := d + 1) (B := B) (v := mE v [(b + 1, f_reg), (b + 3, f_memory), (b + 4, f_timers), (b + 4 + 1, f_timers_process), (b + 4 + 2, f_timers_time), (b + 4 + 3, f_timers_isBy)]) (w := w) (Q := Q') hB (by omega) f_reg f_memory h5 hq
      generalize hg_u4 : FX3_endProcess f_reg f_memory = u4 at k6 hP hO
      try dsimp only at hP hO
      refine r_callV (st := []) (o := b) (as := []) (envc := [(b + 1, f_reg), (b + 3, f_memory)]) (envc' := [(b + 1, u4.2.1), (b + 3, u4.2.2)]) (env' := [(b + 1, u4.2.1), (b + 3, u4.2.2), (b + 4, f_timers), (b + 4 + 1, f_timers_process), (b + 4 + 2, f_timers_time), (b + 4 + 3, f_timers_isBy)]) (rv := some u4.1) [0, 1] (hn _ _ _ _ _ _) rfl rfl (Nat.le_of_ble_eq_true rfl) hB.1 rfl rfl rfl k6 ?_
      show RB _ _ _ _ _ [.int u4.1] _ _
      exact r_ret rfl (nz_ok hO) (hPQ u4.1 u4.2.1 u4.2.2 f_timers f_timers_process f_timers_time f_timers_isBy hP)
    · rw [if_neg c21] at hP
      have hO := hO.2 c21
      by_cases c22 : x1 = 20
      · rw [if_pos c22] at hP
        have hO := hO.1 c22
        refine r_tswAt (k := 2) (b := 3) rfl (by rw [c22]; decide) ?_
        refine r_aload rfl ?_
        have h8 := hO
        have k9 := fun (Q' : Option Int32 → mMH → Prop) hq => tX3_goOff (d := d + 2) (B := B) (v := mE v [(b + 1, f_reg), (b + 3, f_memory), (b + 4, f_timers), (b + 4 + 1, f_timers_process), (b + 4 + 2, f_timers_time), (b + 4 + 3, f_timers_isBy)]) (w := w) (Q := Q') hB (by omega) f_reg f_memory h8 hq
        generalize hg_u7 : FX3_goOff f_reg f_memory = u7 at k9 hP
        try dsimp only at hP
        refine r_callV (st := []) (o := b) (as := []) (envc := [(b + 1, f_reg), (b + 3, f_memory)]) (envc' := [(b + 1, u7.2.1), (b + 3, u7.2.2)]) (env' := [(b + 1, u7.2.1), (b + 3, u7.2.2), (b + 4, f_timers), (b + 4 + 1, f_timers_process), (b + 4 + 2, f_timers_time), (b + 4 + 3, f_timers_isBy)]) (rv := none) [0, 1] (hn _ _ _ _ _ _) rfl rfl (Nat.le_of_ble_eq_true rfl) hB.1 rfl rfl rfl k9 ?_
        show RB _ _ _ _ _ [] _ _
        refine r_int ?_
        exact r_ret rfl rfl (hPQ 1 u7.2.1 u7.2.2 f_timers f_timers_process f_timers_time f_timers_isBy hP)
      · rw [if_neg c22] at hP
        have hO := hO.2 c22
        by_cases c23 : x1 = 21
        · rw [if_pos c23] at hP
          have hO := hO.1 c23
          refine r_tswAt (k := 3) (b := 4) rfl (by rw [c23]; decide) ?_
          refine r_aload rfl ?_
          obtain ⟨h11, hO⟩ := hO
          have k12 := fun (Q' : Option Int32 → mMH → Prop) hq => tX3_runProcess (d := d + 0) (B := B) (v := mE v [(b + 1, f_reg), (b + 3, f_memory), (b + 4, f_timers), (b + 4 + 1, f_timers_process), (b + 4 + 2, f_timers_time), (b + 4 + 3, f_timers_isBy)]) (w := w) (Q := Q') hB (by omega) f_reg f_memory h11 hq
          generalize hg_u10 : FX3_runProcess f_reg f_memory = u10 at k12 hP hO
          try dsimp only at hP hO
          refine r_callV (st := []) (o := b) (as := []) (envc := [(b + 1, f_reg), (b + 3, f_memory)]) (envc' := [(b + 1, u10.2.1), (b + 3, u10.2.2)]) (env' := [(b + 1, u10.2.1), (b + 3, u10.2.2), (b + 4, f_timers), (b + 4 + 1, f_timers_process), (b + 4 + 2, f_timers_time), (b + 4 + 3, f_timers_isBy)]) (rv := some u10.1) [0, 1] (hn _ _ _ _ _ _) rfl rfl (Nat.le_of_ble_eq_true rfl) hB.1 rfl rfl rfl k12 ?_
          show RB _ _ _ _ _ [.int u10.1] _ _
          exact r_ret rfl (nz_ok hO) (hPQ u10.1 u10.2.1 u10.2.2 f_timers f_timers_process f_timers_time f_timers_isBy hP)
        · rw [if_neg c23] at hP
          have hO := hO.2 c23
          by_cases c24 : x1 = 22
          · rw [if_pos c24] at hP
            have hO := hO.1 c24
            refine r_tswAt (k := 4) (b := 5) rfl (by rw [c24]; decide) ?_
            refine r_aload rfl ?_
            refine r_aload rfl ?_
            refine r_getr (q := b + 1) hB.1 hB.2.2.2.2.2.2.2.2.2.2.1 ?_
            refine r_int ?_
            refine r_ald (x := f_reg 5) 0 5 (hn _ _ _ _ _ _) rfl hB.2.1 (by decide) rfl (lt_in 5 20 rfl rfl) (lt_cl 5 rfl) rfl ?_
            have k14 := fun (Q' : Option Int32 → mMH → Prop) hq => tX3_push (d := d + 2) (B := B) (v := mE v [(b + 1, f_reg), (b + 3, f_memory), (b + 4, f_timers), (b + 4 + 1, f_timers_process), (b + 4 + 2, f_timers_time), (b + 4 + 3, f_timers_isBy)]) (w := w) (Q := Q') hB (by omega) (f_reg 5) f_reg hq
            generalize hg_u13 : FX3_push (f_reg 5) f_reg = u13 at k14 hP
            try dsimp only at hP
            refine r_callV (st := []) (o := b) (as := [.int (f_reg 5)]) (envc := [(b + 1, f_reg)]) (envc' := [(b + 1, u13.2)]) (env' := [(b + 1, u13.2), (b + 3, f_memory), (b + 4, f_timers), (b + 4 + 1, f_timers_process), (b + 4 + 2, f_timers_time), (b + 4 + 3, f_timers_isBy)]) (rv := none) [0] (hn _ _ _ _ _ _) rfl rfl (Nat.le_of_ble_eq_true rfl) hB.1 rfl rfl rfl k14 ?_
            show RB _ _ _ _ _ [] _ _
            refine r_int ?_
            exact r_ret rfl rfl (hPQ 1 u13.2 f_memory f_timers f_timers_process f_timers_time f_timers_isBy hP)
          · rw [if_neg c24] at hP
            have hO := hO.2 c24
            by_cases c25 : x1 = 23
            · rw [if_pos c25] at hP
              have hO := hO.1 c25
              refine r_tswAt (k := 5) (b := 6) rfl (by rw [c25]; decide) ?_
              refine r_aload rfl ?_
              refine r_aload rfl ?_
              refine r_getr (q := b + 1) hB.1 hB.2.2.2.2.2.2.2.2.2.2.1 ?_
              refine r_int ?_
              refine r_ald (x := f_reg 18) 0 18 (hn _ _ _ _ _ _) rfl hB.2.1 (by decide) rfl (lt_in 18 20 rfl rfl) (lt_cl 18 rfl) rfl ?_
              have k16 := fun (Q' : Option Int32 → mMH → Prop) hq => tX3_push (d := d + 2) (B := B) (v := mE v [(b + 1, f_reg), (b + 3, f_memory), (b + 4, f_timers), (b + 4 + 1, f_timers_process), (b + 4 + 2, f_timers_time), (b + 4 + 3, f_timers_isBy)]) (w := w) (Q := Q') hB (by omega) (f_reg 18) f_reg hq
              generalize hg_u15 : FX3_push (f_reg 18) f_reg = u15 at k16 hP
              try dsimp only at hP
              refine r_callV (st := []) (o := b) (as := [.int (f_reg 18)]) (envc := [(b + 1, f_reg)]) (envc' := [(b + 1, u15.2)]) (env' := [(b + 1, u15.2), (b + 3, f_memory), (b + 4, f_timers), (b + 4 + 1, f_timers_process), (b + 4 + 2, f_timers_time), (b + 4 + 3, f_timers_isBy)]) (rv := none) [0] (hn _ _ _ _ _ _) rfl rfl (Nat.le_of_ble_eq_true rfl) hB.1 rfl rfl rfl k16 ?_
              show RB _ _ _ _ _ [] _ _
              refine r_int ?_
              exact r_ret rfl rfl (hPQ 1 u15.2 f_memory f_timers f_timers_process f_timers_time f_timers_isBy hP)
            · rw [if_neg c25] at hP
              have hO := hO.2 c25
              by_cases c26 : x1 = 24
              · rw [if_pos c26] at hP
                have hO := hO.1 c26
                refine r_tswAt (k := 6) (b := 7) rfl (by rw [c26]; decide) ?_
                refine r_aload rfl ?_
                obtain ⟨h18, hO⟩ := hO
                have k19 := fun (Q' : Option Int32 → mMH → Prop) hq => tX3_waitForTime (d := d + 0) (B := B) (v := mE v [(b + 1, f_reg), (b + 3, f_memory), (b + 4, f_timers), (b + 4 + 1, f_timers_process), (b + 4 + 2, f_timers_time), (b + 4 + 3, f_timers_isBy)]) (w := w) (Q := Q') hB (by omega) f_reg f_memory f_timers f_timers_process f_timers_time f_timers_isBy h18 hq
                generalize hg_u17 : FX3_waitForTime f_reg f_memory f_timers f_timers_process f_timers_time f_timers_isBy = u17 at k19 hP hO
                try dsimp only at hP hO
                refine r_callV (st := []) (o := b) (as := []) (envc := [(b + 1, f_reg), (b + 3, f_memory), (b + 4, f_timers), (b + 4 + 1, f_timers_process), (b + 4 + 2, f_timers_time), (b + 4 + 3, f_timers_isBy)]) (envc' := [(b + 1, u17.2.1), (b + 3, u17.2.2.1), (b + 4, u17.2.2.2.1), (b + 4 + 1, u17.2.2.2.2.1), (b + 4 + 2, u17.2.2.2.2.2.1), (b + 4 + 3, u17.2.2.2.2.2.2)]) (env' := [(b + 1, u17.2.1), (b + 3, u17.2.2.1), (b + 4, u17.2.2.2.1), (b + 4 + 1, u17.2.2.2.2.1), (b + 4 + 2, u17.2.2.2.2.2.1), (b + 4 + 3, u17.2.2.2.2.2.2)]) (rv := some u17.1) [0, 1, 2, 3, 4, 5] (hn _ _ _ _ _ _) rfl rfl (Nat.le_of_ble_eq_true rfl) hB.1 rfl rfl rfl k19 ?_
                show RB _ _ _ _ _ [.int u17.1] _ _
                exact r_ret rfl (nz_ok hO) (hPQ u17.1 u17.2.1 u17.2.2.1 u17.2.2.2.1 u17.2.2.2.2.1 u17.2.2.2.2.2.1 u17.2.2.2.2.2.2 hP)
              · rw [if_neg c26] at hP
                have hO := hO.2 c26
                refine r_tswD (fun k hk => ?_) ?_
                · have hk : k < 7 := hk
                  rcases (show k = 0 ∨ k = 1 ∨ k = 2 ∨ k = 3 ∨ k = 4 ∨ k = 5 ∨ k = 6 by omega) with rfl | rfl | rfl | rfl | rfl | rfl | rfl
                  · rw [show (18 : Int32) + nI 0 = 18 by decide +kernel]; exact c20
                  · rw [show (18 : Int32) + nI 1 = 19 by decide +kernel]; exact c21
                  · rw [show (18 : Int32) + nI 2 = 20 by decide +kernel]; exact c22
                  · rw [show (18 : Int32) + nI 3 = 21 by decide +kernel]; exact c23
                  · rw [show (18 : Int32) + nI 4 = 22 by decide +kernel]; exact c24
                  · rw [show (18 : Int32) + nI 5 = 23 by decide +kernel]; exact c25
                  · rw [show (18 : Int32) + nI 6 = 24 by decide +kernel]; exact c26
                refine r_int ?_
                exact r_ret rfl rfl (hPQ 0 f_reg f_memory f_timers f_timers_process f_timers_time f_timers_isBy hP)

def FX3_waitAt (x1 : Int32) (x2 : Int32) (f_reg : mF) (f_memory : mF) : Int32 × mF × mF :=
  let u1 := FX3_own f_reg; let g3 := upd f_memory ((x1 : Int32).toNatClampNeg) u1; let g5 := upd g3 (((f_reg 4) - 3 : Int32).toNatClampNeg) x2; let u6 := FX3_goOff f_reg g5; (0, u6.2.1, u6.2.2)
def OX3_waitAt (x1 : Int32) (x2 : Int32) (f_reg : mF) (f_memory : mF) : Prop :=
  (let u1 := FX3_own f_reg; vp_in x1 96 ∧ (let g3 := upd f_memory ((x1 : Int32).toNatClampNeg) u1; vp_in ((f_reg 4) - 3) 96 ∧ (let g5 := upd g3 (((f_reg 4) - 3 : Int32).toNatClampNeg) x2; OX3_goOff f_reg g5)))
set_option maxRecDepth 20000 in
theorem tX3_waitAt {d : Nat} {B : mB} {v : mV} {w : mX} {Q : Option Int32 → mMH → Prop} {b g : Nat} (hB : isMach B b g) (hd : g + 2 ≤ b) (x1 : Int32) (x2 : Int32) (f_reg : mF) (f_memory : mF) (hO : OX3_waitAt x1 x2 f_reg f_memory) (hQ : Q (none) (mH B (mE v [(b + 1, (FX3_waitAt x1 x2 f_reg f_memory).2.1), (b + 3, (FX3_waitAt x1 x2 f_reg f_memory).2.2)]) w)) : CQ (d + 2) 54 [.ref b, .int x1, .int x2] (mH B (mE v [(b + 1, f_reg), (b + 3, f_memory)]) w) Q := by
  have hn : ∀ (f_reg : mF) (f_memory : mF), mNd [(b + 1, f_reg), (b + 3, f_memory)] := fun _ _ => by
    show List.Nodup _
    simp only [List.map_cons, List.map_nil, List.nodup_cons, List.mem_cons, List.not_mem_nil, or_false, not_or, not_false_eq_true, List.nodup_nil, and_true]
    omega
  obtain ⟨P, hPQ, hP⟩ : ∃ P : Int32 × mF × mF → Prop, (∀ (q : Int32) (q0 : mF) (q1 : mF), P (q, q0, q1) → Q (none) (mH B (mE v [(b + 1, q0), (b + 3, q1)]) w)) ∧ P (FX3_waitAt x1 x2 f_reg f_memory) := ⟨fun res => Q (none) (mH B (mE v [(b + 1, res.2.1), (b + 3, res.2.2)]) w), fun _ _ _ h => h, hQ⟩
  refine r_begin mt_54 (by intro a ha; simp only [List.mem_cons, List.not_mem_nil, or_false] at ha; rcases ha with rfl | rfl | rfl <;> rfl) (Nat.le_of_ble_eq_true rfl) ?_
  rw [FX3_waitAt] at hP
  rw [OX3_waitAt] at hO
  show RB _ _ _ _ [some (.ref b), some (.int x1), some (.int x2)] [] _ _
  refine r_aload rfl ?_
  refine r_getr (q := b + 3) hB.1 hB.2.2.2.2.2.2.2.2.2.2.2.2.1 ?_
  refine r_iload rfl ?_
  refine r_aload rfl ?_
  have k9 := fun (Q' : Option Int32 → mMH → Prop) hq => tX3_own (d := d + 0) (B := B) (v := mE v [(b + 1, f_reg), (b + 3, f_memory)]) (w := w) (Q := Q') hB (by omega) f_reg hq
  generalize hg_u1 : FX3_own f_reg = u1 at k9 hP hO
  try dsimp only at hP hO
  refine r_callV (st := [.int x1, .ref (b + 3)]) (o := b) (as := []) (envc := [(b + 1, f_reg)]) (envc' := [(b + 1, f_reg)]) (env' := [(b + 1, f_reg), (b + 3, f_memory)]) (rv := some u1) [0] (hn _ _) rfl rfl (Nat.le_of_ble_eq_true rfl) hB.1 rfl rfl rfl k9 ?_
  show RB _ _ _ _ _ [.int u1, .int x1, .ref (b + 3)] _ _
  obtain ⟨h2, hO⟩ := hO
  refine r_ast (y := u1) (env' := [(b + 1, f_reg), (b + 3, (upd f_memory ((x1 : Int32).toNatClampNeg) u1))]) 1 ((x1 : Int32).toNatClampNeg) (hn _ _) rfl hB.2.2.2.1 (by decide) rfl h2 rfl rfl rfl ?_
  generalize hg_g3 : upd f_memory ((x1 : Int32).toNatClampNeg) u1 = g3 at hP hO ⊢
  try dsimp only at hP hO
  refine r_aload rfl ?_
  refine r_getr (q := b + 3) hB.1 hB.2.2.2.2.2.2.2.2.2.2.2.2.1 ?_
  refine r_aload rfl ?_
  refine r_getr (q := b + 1) hB.1 hB.2.2.2.2.2.2.2.2.2.2.1 ?_
  refine r_int ?_
  refine r_ald (x := f_reg 4) 0 4 (hn _ _) rfl hB.2.1 (by decide) rfl (lt_in 4 20 rfl rfl) (lt_cl 4 rfl) rfl ?_
  refine r_int ?_
  refine r_isub ?_
  refine r_iload rfl ?_
  obtain ⟨h4, hO⟩ := hO
  refine r_ast (y := x2) (env' := [(b + 1, f_reg), (b + 3, (upd g3 (((f_reg 4) - 3 : Int32).toNatClampNeg) x2))]) 1 (((f_reg 4) - 3 : Int32).toNatClampNeg) (hn _ _) rfl hB.2.2.2.1 (by decide) rfl h4 rfl rfl rfl ?_
  generalize hg_g5 : upd g3 (((f_reg 4) - 3 : Int32).toNatClampNeg) x2 = g5 at hP hO ⊢
  try dsimp only at hP hO
  refine r_aload rfl ?_
  have h7 := hO
  have k8 := fun (Q' : Option Int32 → mMH → Prop) hq => tX3_goOff (d := d + 0) (B := B) (v := mE v [(b + 1, f_reg), (b + 3, g5)]) (w := w) (Q := Q') hB (by omega) f_reg g5 h7 hq
  generalize hg_u6 : FX3_goOff f_reg g5 = u6 at k8 hP
  try dsimp only at hP
  refine r_callV (st := []) (o := b) (as := []) (envc := [(b + 1, f_reg), (b + 3, g5)]) (envc' := [(b + 1, u6.2.1), (b + 3, u6.2.2)]) (env' := [(b + 1, u6.2.1), (b + 3, u6.2.2)]) (rv := none) [0, 1] (hn _ _) rfl rfl (Nat.le_of_ble_eq_true rfl) hB.1 rfl rfl rfl k8 ?_
  show RB _ _ _ _ _ [] _ _
  exact r_retv rfl (hPQ 0 u6.2.1 u6.2.2 hP)

def FX3_alert_b2 (y1 : Int32) (y2 : Int32) (z0 : Int32) (f_reg : mF) (f_memory : mF) (f_timers : mF) (f_timers_process : mF) (f_timers_time : mF) (f_timers_isBy : mF) : Int32 × mF × mF × mF × mF × mF × mF :=
  if z0 = 0 then (if (f_memory ((y2 : Int32).toNatClampNeg)) = (-2) then (let g7 := upd f_memory ((y2 : Int32).toNatClampNeg) (-4); if z0 = 0 then ((0, f_reg, g7, f_timers, f_timers_process, f_timers_time, f_timers_isBy)) else (let u9 := FX6_findByTaltwt y1 f_timers f_timers_process f_timers_isBy; if u9 = (-1) then (let u12 := FX3_schedule y1 f_reg g7; (0, u12.2.1, u12.2.2, f_timers, f_timers_process, f_timers_time, f_timers_isBy)) else (let u15 := FX6_remove u9 f_timers f_timers_process f_timers_time f_timers_isBy; let g18 := upd g7 (((y1 / 2) - 4 : Int32).toNatClampNeg) (-5); let u19 := FX3_schedule y1 f_reg g18; (0, u19.2.1, u19.2.2, u15.2.1, u15.2.2.1, u15.2.2.2.1, u15.2.2.2.2)))) else (if z0 = 0 then ((0, f_reg, f_memory, f_timers, f_timers_process, f_timers_time, f_timers_isBy)) else (let u25 := FX6_findByTaltwt y1 f_timers f_timers_process f_timers_isBy; if u25 = (-1) then (let u28 := FX3_schedule y1 f_reg f_memory; (0, u28.2.1, u28.2.2, f_timers, f_timers_process, f_timers_time, f_timers_isBy)) else (let u31 := FX6_remove u25 f_timers f_timers_process f_timers_time f_timers_isBy; let g34 := upd f_memory (((y1 / 2) - 4 : Int32).toNatClampNeg) (-5); let u35 := FX3_schedule y1 f_reg g34; (0, u35.2.1, u35.2.2, u31.2.1, u31.2.2.1, u31.2.2.2.1, u31.2.2.2.2))))) else (let g41 := upd f_memory ((y2 : Int32).toNatClampNeg) (-4); if z0 = 0 then ((0, f_reg, g41, f_timers, f_timers_process, f_timers_time, f_timers_isBy)) else (let u43 := FX6_findByTaltwt y1 f_timers f_timers_process f_timers_isBy; if u43 = (-1) then (let u46 := FX3_schedule y1 f_reg g41; (0, u46.2.1, u46.2.2, f_timers, f_timers_process, f_timers_time, f_timers_isBy)) else (let u49 := FX6_remove u43 f_timers f_timers_process f_timers_time f_timers_isBy; let g52 := upd g41 (((y1 / 2) - 4 : Int32).toNatClampNeg) (-5); let u53 := FX3_schedule y1 f_reg g52; (0, u53.2.1, u53.2.2, u49.2.1, u49.2.2.1, u49.2.2.2.1, u49.2.2.2.2))))
def OX3_alert_b2 (y1 : Int32) (y2 : Int32) (z0 : Int32) (f_reg : mF) (f_memory : mF) (f_timers : mF) (f_timers_process : mF) (f_timers_time : mF) (f_timers_isBy : mF) : Prop :=
  (z0 = 0 → (vp_in y2 96 ∧ (((f_memory ((y2 : Int32).toNatClampNeg)) = (-2) → (vp_in y2 96 ∧ (let g7 := upd f_memory ((y2 : Int32).toNatClampNeg) (-4); (z0 = 0 → True) ∧ (¬ (z0 = 0) → (OX6_findByTaltwt y1 f_timers f_timers_process f_timers_isBy ∧ (let u9 := FX6_findByTaltwt y1 f_timers f_timers_process f_timers_isBy; (u9 = (-1) → (OX3_schedule y1 f_reg g7)) ∧ (¬ (u9 = (-1)) → (OX6_remove u9 f_timers f_timers_process f_timers_time f_timers_isBy ∧ (let u15 := FX6_remove u9 f_timers f_timers_process f_timers_time f_timers_isBy; vp_in ((y1 / 2) - 4) 96 ∧ (let g18 := upd g7 (((y1 / 2) - 4 : Int32).toNatClampNeg) (-5); OX3_schedule y1 f_reg g18)))))))))) ∧ (¬ ((f_memory ((y2 : Int32).toNatClampNeg)) = (-2)) → ((z0 = 0 → True) ∧ (¬ (z0 = 0) → (OX6_findByTaltwt y1 f_timers f_timers_process f_timers_isBy ∧ (let u25 := FX6_findByTaltwt y1 f_timers f_timers_process f_timers_isBy; (u25 = (-1) → (OX3_schedule y1 f_reg f_memory)) ∧ (¬ (u25 = (-1)) → (OX6_remove u25 f_timers f_timers_process f_timers_time f_timers_isBy ∧ (let u31 := FX6_remove u25 f_timers f_timers_process f_timers_time f_timers_isBy; vp_in ((y1 / 2) - 4) 96 ∧ (let g34 := upd f_memory (((y1 / 2) - 4 : Int32).toNatClampNeg) (-5); OX3_schedule y1 f_reg g34)))))))))))) ∧ (¬ (z0 = 0) → (vp_in y2 96 ∧ (let g41 := upd f_memory ((y2 : Int32).toNatClampNeg) (-4); (z0 = 0 → True) ∧ (¬ (z0 = 0) → (OX6_findByTaltwt y1 f_timers f_timers_process f_timers_isBy ∧ (let u43 := FX6_findByTaltwt y1 f_timers f_timers_process f_timers_isBy; (u43 = (-1) → (OX3_schedule y1 f_reg g41)) ∧ (¬ (u43 = (-1)) → (OX6_remove u43 f_timers f_timers_process f_timers_time f_timers_isBy ∧ (let u49 := FX6_remove u43 f_timers f_timers_process f_timers_time f_timers_isBy; vp_in ((y1 / 2) - 4) 96 ∧ (let g52 := upd g41 (((y1 / 2) - 4 : Int32).toNatClampNeg) (-5); OX3_schedule y1 f_reg g52))))))))))
set_option maxRecDepth 20000 in
theorem tX3_alert_b2 {d : Nat} {B : mB} {v : mV} {w : mX} {Q : Option Int32 → mMH → Prop} {b g : Nat} (hB : isMach B b g) (hd : g + 2 ≤ b) {P : Int32 × mF × mF × mF × mF × mF × mF → Prop} (hPQ : ∀ (q : Int32) (q0 : mF) (q1 : mF) (q2 : mF) (q3 : mF) (q4 : mF) (q5 : mF), P (q, q0, q1, q2, q3, q4, q5) → Q (none) (mH B (mE v [(b + 1, q0), (b + 3, q1), (b + 4, q2), (b + 4 + 1, q3), (b + 4 + 2, q4), (b + 4 + 3, q5)]) w)) : ∀ (y1 : Int32) (y2 : Int32) (z0 : Int32) (e3 : Option Value) (he3 : mC1 e3 = true) (e4 : Option Value) (he4 : mC1 e4 = true) (f_reg : mF) (f_memory : mF) (f_timers : mF) (f_timers_process : mF) (f_timers_time : mF) (f_timers_isBy : mF), OX3_alert_b2 y1 y2 z0 f_reg f_memory f_timers f_timers_process f_timers_time f_timers_isBy → P (FX3_alert_b2 y1 y2 z0 f_reg f_memory f_timers f_timers_process f_timers_time f_timers_isBy) → RJ (d + 2) kX3_alert (none) 2 [some (.ref b), some (.int y1), some (.int y2), e3, e4] [.int z0] (mH B (mE v [(b + 1, f_reg), (b + 3, f_memory), (b + 4, f_timers), (b + 4 + 1, f_timers_process), (b + 4 + 2, f_timers_time), (b + 4 + 3, f_timers_isBy)]) w) Q := by
  intro y1 y2 z0 e3 he3 e4 he4 f_reg f_memory f_timers f_timers_process f_timers_time f_timers_isBy hO hP
  rw [FX3_alert_b2] at hP
  rw [OX3_alert_b2] at hO
  have hn : ∀ (f_reg : mF) (f_memory : mF) (f_timers : mF) (f_timers_process : mF) (f_timers_time : mF) (f_timers_isBy : mF), mNd [(b + 1, f_reg), (b + 3, f_memory), (b + 4, f_timers), (b + 4 + 1, f_timers_process), (b + 4 + 2, f_timers_time), (b + 4 + 3, f_timers_isBy)] := fun _ _ _ _ _ _ => by
    show List.Nodup _
    simp only [List.map_cons, List.map_nil, List.nodup_cons, List.mem_cons, List.not_mem_nil, or_false, not_or, not_false_eq_true, List.nodup_nil, and_true]
    omega
  show RB _ _ _ _ [some (.ref b), some (.int y1), some (.int y2), e3, e4] [.int z0] _ _
  refine r_istore (L' := [some (.ref b), some (.int y1), some (.int y2), some (.int z0), e4]) rfl rfl ?_
  refine r_iload rfl ?_
  refine r_if1 (fun c3 : z0 = 0 => ?_) (fun c3 : ¬ (z0 = 0) => ?_)
  · rw [if_pos c3] at hP
    have hO := hO.1 c3
    refine r_aload rfl ?_
    refine r_getr (q := b + 3) hB.1 hB.2.2.2.2.2.2.2.2.2.2.2.2.1 ?_
    refine r_iload rfl ?_
    obtain ⟨h4, hO⟩ := hO
    refine r_ald (x := f_memory ((y2 : Int32).toNatClampNeg)) 1 ((y2 : Int32).toNatClampNeg) (hn _ _ _ _ _ _) rfl hB.2.2.2.1 (by decide) rfl h4 rfl rfl ?_
    refine r_int ?_
    refine r_icmp1 (fun c5 : (f_memory ((y2 : Int32).toNatClampNeg)) = (-2) => ?_) (fun c5 : ¬ ((f_memory ((y2 : Int32).toNatClampNeg)) = (-2)) => ?_)
    · rw [if_pos c5] at hP
      have hO := hO.1 c5
      refine r_fall ?_
      refine r_aload rfl ?_
      refine r_getr (q := b + 3) hB.1 hB.2.2.2.2.2.2.2.2.2.2.2.2.1 ?_
      refine r_iload rfl ?_
      refine r_int ?_
      obtain ⟨h6, hO⟩ := hO
      refine r_ast (y := (-4)) (env' := [(b + 1, f_reg), (b + 3, (upd f_memory ((y2 : Int32).toNatClampNeg) (-4))), (b + 4, f_timers), (b + 4 + 1, f_timers_process), (b + 4 + 2, f_timers_time), (b + 4 + 3, f_timers_isBy)]) 1 ((y2 : Int32).toNatClampNeg) (hn _ _ _ _ _ _) rfl hB.2.2.2.1 (by decide) rfl h6 rfl rfl rfl ?_
      generalize hg_g7 : upd f_memory ((y2 : Int32).toNatClampNeg) (-4) = g7 at hP hO ⊢
      try dsimp only at hP hO
      refine r_fall ?_
      refine r_iload rfl ?_
      refine r_if1 (fun c8 : z0 = 0 => ?_) (fun c8 : ¬ (z0 = 0) => ?_)
      · rw [if_pos c8] at hP
        have hO := hO.1 c8
        exact r_retv rfl (hPQ 0 f_reg g7 f_timers f_timers_process f_timers_time f_timers_isBy hP)
      · rw [if_neg c8] at hP
        have hO := hO.2 c8
        refine r_aload rfl ?_
        refine r_getr (q := b + 4) hB.1 hB.2.2.2.2.2.2.2.2.2.2.2.2.2.1 ?_
        refine r_iload rfl ?_
        obtain ⟨h10, hO⟩ := hO
        have k23 := fun (Q' : Option Int32 → mMH → Prop) hq => tX6_findByTaltwt (d := d + 1) (B := B) (v := mE v [(b + 1, f_reg), (b + 3, g7), (b + 4, f_timers), (b + 4 + 1, f_timers_process), (b + 4 + 2, f_timers_time), (b + 4 + 3, f_timers_isBy)]) (w := w) (Q := Q') hB.2.2.2.2.2.1 y1 f_timers f_timers_process f_timers_isBy h10 hq
        generalize hg_u9 : FX6_findByTaltwt y1 f_timers f_timers_process f_timers_isBy = u9 at k23 hP hO
        try dsimp only at hP hO
        refine r_callV (st := []) (o := b + 4) (as := [.int y1]) (envc := [(b + 4, f_timers), (b + 4 + 1, f_timers_process), (b + 4 + 3, f_timers_isBy)]) (envc' := [(b + 4, f_timers), (b + 4 + 1, f_timers_process), (b + 4 + 3, f_timers_isBy)]) (env' := [(b + 1, f_reg), (b + 3, g7), (b + 4, f_timers), (b + 4 + 1, f_timers_process), (b + 4 + 2, f_timers_time), (b + 4 + 3, f_timers_isBy)]) (rv := some u9) [2, 3, 5] (hn _ _ _ _ _ _) rfl rfl (Nat.le_of_ble_eq_true rfl) hB.2.2.2.2.2.1.1 rfl rfl rfl k23 ?_
        show RB _ _ _ _ _ [.int u9] _ _
        refine r_istore (L' := [some (.ref b), some (.int y1), some (.int y2), some (.int z0), some (.int u9)]) rfl rfl ?_
        refine r_iload rfl ?_
        refine r_int ?_
        refine r_icmp (fun c11 : u9 = (-1) => ?_) (fun c11 : ¬ (u9 = (-1)) => ?_)
        · rw [if_pos c11] at hP
          have hO := hO.1 c11
          refine r_aload rfl ?_
          refine r_iload rfl ?_
          have h13 := hO
          have k14 := fun (Q' : Option Int32 → mMH → Prop) hq => tX3_schedule (d := d + 0) (B := B) (v := mE v [(b + 1, f_reg), (b + 3, g7), (b + 4, f_timers), (b + 4 + 1, f_timers_process), (b + 4 + 2, f_timers_time), (b + 4 + 3, f_timers_isBy)]) (w := w) (Q := Q') hB (by omega) y1 f_reg g7 h13 hq
          generalize hg_u12 : FX3_schedule y1 f_reg g7 = u12 at k14 hP
          try dsimp only at hP
          refine r_callV (st := []) (o := b) (as := [.int y1]) (envc := [(b + 1, f_reg), (b + 3, g7)]) (envc' := [(b + 1, u12.2.1), (b + 3, u12.2.2)]) (env' := [(b + 1, u12.2.1), (b + 3, u12.2.2), (b + 4, f_timers), (b + 4 + 1, f_timers_process), (b + 4 + 2, f_timers_time), (b + 4 + 3, f_timers_isBy)]) (rv := none) [0, 1] (hn _ _ _ _ _ _) rfl rfl (Nat.le_of_ble_eq_true rfl) hB.1 rfl rfl rfl k14 ?_
          show RB _ _ _ _ _ [] _ _
          exact r_retv rfl (hPQ 0 u12.2.1 u12.2.2 f_timers f_timers_process f_timers_time f_timers_isBy hP)
        · rw [if_neg c11] at hP
          have hO := hO.2 c11
          refine r_aload rfl ?_
          refine r_getr (q := b + 4) hB.1 hB.2.2.2.2.2.2.2.2.2.2.2.2.2.1 ?_
          refine r_iload rfl ?_
          obtain ⟨h16, hO⟩ := hO
          have k22 := fun (Q' : Option Int32 → mMH → Prop) hq => tX6_remove (d := d + 1) (B := B) (v := mE v [(b + 1, f_reg), (b + 3, g7), (b + 4, f_timers), (b + 4 + 1, f_timers_process), (b + 4 + 2, f_timers_time), (b + 4 + 3, f_timers_isBy)]) (w := w) (Q := Q') hB.2.2.2.2.2.1 u9 f_timers f_timers_process f_timers_time f_timers_isBy h16 hq
          generalize hg_u15 : FX6_remove u9 f_timers f_timers_process f_timers_time f_timers_isBy = u15 at k22 hP hO
          try dsimp only at hP hO
          refine r_callV (st := []) (o := b + 4) (as := [.int u9]) (envc := [(b + 4, f_timers), (b + 4 + 1, f_timers_process), (b + 4 + 2, f_timers_time), (b + 4 + 3, f_timers_isBy)]) (envc' := [(b + 4, u15.2.1), (b + 4 + 1, u15.2.2.1), (b + 4 + 2, u15.2.2.2.1), (b + 4 + 3, u15.2.2.2.2)]) (env' := [(b + 1, f_reg), (b + 3, g7), (b + 4, u15.2.1), (b + 4 + 1, u15.2.2.1), (b + 4 + 2, u15.2.2.2.1), (b + 4 + 3, u15.2.2.2.2)]) (rv := none) [2, 3, 4, 5] (hn _ _ _ _ _ _) rfl rfl (Nat.le_of_ble_eq_true rfl) hB.2.2.2.2.2.1.1 rfl rfl rfl k22 ?_
          show RB _ _ _ _ _ [] _ _
          refine r_aload rfl ?_
          refine r_getr (q := b + 3) hB.1 hB.2.2.2.2.2.2.2.2.2.2.2.2.1 ?_
          refine r_iload rfl ?_
          refine r_int ?_
          refine r_idiv (by decide) ?_
          refine r_int ?_
          refine r_isub ?_
          refine r_int ?_
          obtain ⟨h17, hO⟩ := hO
          refine r_ast (y := (-5)) (env' := [(b + 1, f_reg), (b + 3, (upd g7 (((y1 / 2) - 4 : Int32).toNatClampNeg) (-5))), (b + 4, u15.2.1), (b + 4 + 1, u15.2.2.1), (b + 4 + 2, u15.2.2.2.1), (b + 4 + 3, u15.2.2.2.2)]) 1 (((y1 / 2) - 4 : Int32).toNatClampNeg) (hn _ _ _ _ _ _) rfl hB.2.2.2.1 (by decide) rfl h17 rfl rfl rfl ?_
          generalize hg_g18 : upd g7 (((y1 / 2) - 4 : Int32).toNatClampNeg) (-5) = g18 at hP hO ⊢
          try dsimp only at hP hO
          refine r_fall ?_
          refine r_aload rfl ?_
          refine r_iload rfl ?_
          have h20 := hO
          have k21 := fun (Q' : Option Int32 → mMH → Prop) hq => tX3_schedule (d := d + 0) (B := B) (v := mE v [(b + 1, f_reg), (b + 3, g18), (b + 4, u15.2.1), (b + 4 + 1, u15.2.2.1), (b + 4 + 2, u15.2.2.2.1), (b + 4 + 3, u15.2.2.2.2)]) (w := w) (Q := Q') hB (by omega) y1 f_reg g18 h20 hq
          generalize hg_u19 : FX3_schedule y1 f_reg g18 = u19 at k21 hP
          try dsimp only at hP
          refine r_callV (st := []) (o := b) (as := [.int y1]) (envc := [(b + 1, f_reg), (b + 3, g18)]) (envc' := [(b + 1, u19.2.1), (b + 3, u19.2.2)]) (env' := [(b + 1, u19.2.1), (b + 3, u19.2.2), (b + 4, u15.2.1), (b + 4 + 1, u15.2.2.1), (b + 4 + 2, u15.2.2.2.1), (b + 4 + 3, u15.2.2.2.2)]) (rv := none) [0, 1] (hn _ _ _ _ _ _) rfl rfl (Nat.le_of_ble_eq_true rfl) hB.1 rfl rfl rfl k21 ?_
          show RB _ _ _ _ _ [] _ _
          exact r_retv rfl (hPQ 0 u19.2.1 u19.2.2 u15.2.1 u15.2.2.1 u15.2.2.2.1 u15.2.2.2.2 hP)
    · rw [if_neg c5] at hP
      have hO := hO.2 c5
      refine r_iload rfl ?_
      refine r_if1 (fun c24 : z0 = 0 => ?_) (fun c24 : ¬ (z0 = 0) => ?_)
      · rw [if_pos c24] at hP
        have hO := hO.1 c24
        exact r_retv rfl (hPQ 0 f_reg f_memory f_timers f_timers_process f_timers_time f_timers_isBy hP)
      · rw [if_neg c24] at hP
        have hO := hO.2 c24
        refine r_aload rfl ?_
        refine r_getr (q := b + 4) hB.1 hB.2.2.2.2.2.2.2.2.2.2.2.2.2.1 ?_
        refine r_iload rfl ?_
        obtain ⟨h26, hO⟩ := hO
        have k39 := fun (Q' : Option Int32 → mMH → Prop) hq => tX6_findByTaltwt (d := d + 1) (B := B) (v := mE v [(b + 1, f_reg), (b + 3, f_memory), (b + 4, f_timers), (b + 4 + 1, f_timers_process), (b + 4 + 2, f_timers_time), (b + 4 + 3, f_timers_isBy)]) (w := w) (Q := Q') hB.2.2.2.2.2.1 y1 f_timers f_timers_process f_timers_isBy h26 hq
        generalize hg_u25 : FX6_findByTaltwt y1 f_timers f_timers_process f_timers_isBy = u25 at k39 hP hO
        try dsimp only at hP hO
        refine r_callV (st := []) (o := b + 4) (as := [.int y1]) (envc := [(b + 4, f_timers), (b + 4 + 1, f_timers_process), (b + 4 + 3, f_timers_isBy)]) (envc' := [(b + 4, f_timers), (b + 4 + 1, f_timers_process), (b + 4 + 3, f_timers_isBy)]) (env' := [(b + 1, f_reg), (b + 3, f_memory), (b + 4, f_timers), (b + 4 + 1, f_timers_process), (b + 4 + 2, f_timers_time), (b + 4 + 3, f_timers_isBy)]) (rv := some u25) [2, 3, 5] (hn _ _ _ _ _ _) rfl rfl (Nat.le_of_ble_eq_true rfl) hB.2.2.2.2.2.1.1 rfl rfl rfl k39 ?_
        show RB _ _ _ _ _ [.int u25] _ _
        refine r_istore (L' := [some (.ref b), some (.int y1), some (.int y2), some (.int z0), some (.int u25)]) rfl rfl ?_
        refine r_iload rfl ?_
        refine r_int ?_
        refine r_icmp (fun c27 : u25 = (-1) => ?_) (fun c27 : ¬ (u25 = (-1)) => ?_)
        · rw [if_pos c27] at hP
          have hO := hO.1 c27
          refine r_aload rfl ?_
          refine r_iload rfl ?_
          have h29 := hO
          have k30 := fun (Q' : Option Int32 → mMH → Prop) hq => tX3_schedule (d := d + 0) (B := B) (v := mE v [(b + 1, f_reg), (b + 3, f_memory), (b + 4, f_timers), (b + 4 + 1, f_timers_process), (b + 4 + 2, f_timers_time), (b + 4 + 3, f_timers_isBy)]) (w := w) (Q := Q') hB (by omega) y1 f_reg f_memory h29 hq
          generalize hg_u28 : FX3_schedule y1 f_reg f_memory = u28 at k30 hP
          try dsimp only at hP
          refine r_callV (st := []) (o := b) (as := [.int y1]) (envc := [(b + 1, f_reg), (b + 3, f_memory)]) (envc' := [(b + 1, u28.2.1), (b + 3, u28.2.2)]) (env' := [(b + 1, u28.2.1), (b + 3, u28.2.2), (b + 4, f_timers), (b + 4 + 1, f_timers_process), (b + 4 + 2, f_timers_time), (b + 4 + 3, f_timers_isBy)]) (rv := none) [0, 1] (hn _ _ _ _ _ _) rfl rfl (Nat.le_of_ble_eq_true rfl) hB.1 rfl rfl rfl k30 ?_
          show RB _ _ _ _ _ [] _ _
          exact r_retv rfl (hPQ 0 u28.2.1 u28.2.2 f_timers f_timers_process f_timers_time f_timers_isBy hP)
        · rw [if_neg c27] at hP
          have hO := hO.2 c27
          refine r_aload rfl ?_
          refine r_getr (q := b + 4) hB.1 hB.2.2.2.2.2.2.2.2.2.2.2.2.2.1 ?_
          refine r_iload rfl ?_
          obtain ⟨h32, hO⟩ := hO
          have k38 := fun (Q' : Option Int32 → mMH → Prop) hq => tX6_remove (d := d + 1) (B := B) (v := mE v [(b + 1, f_reg), (b + 3, f_memory), (b + 4, f_timers), (b + 4 + 1, f_timers_process), (b + 4 + 2, f_timers_time), (b + 4 + 3, f_timers_isBy)]) (w := w) (Q := Q') hB.2.2.2.2.2.1 u25 f_timers f_timers_process f_timers_time f_timers_isBy h32 hq
          generalize hg_u31 : FX6_remove u25 f_timers f_timers_process f_timers_time f_timers_isBy = u31 at k38 hP hO
          try dsimp only at hP hO
          refine r_callV (st := []) (o := b + 4) (as := [.int u25]) (envc := [(b + 4, f_timers), (b + 4 + 1, f_timers_process), (b + 4 + 2, f_timers_time), (b + 4 + 3, f_timers_isBy)]) (envc' := [(b + 4, u31.2.1), (b + 4 + 1, u31.2.2.1), (b + 4 + 2, u31.2.2.2.1), (b + 4 + 3, u31.2.2.2.2)]) (env' := [(b + 1, f_reg), (b + 3, f_memory), (b + 4, u31.2.1), (b + 4 + 1, u31.2.2.1), (b + 4 + 2, u31.2.2.2.1), (b + 4 + 3, u31.2.2.2.2)]) (rv := none) [2, 3, 4, 5] (hn _ _ _ _ _ _) rfl rfl (Nat.le_of_ble_eq_true rfl) hB.2.2.2.2.2.1.1 rfl rfl rfl k38 ?_
          show RB _ _ _ _ _ [] _ _
          refine r_aload rfl ?_
          refine r_getr (q := b + 3) hB.1 hB.2.2.2.2.2.2.2.2.2.2.2.2.1 ?_
          refine r_iload rfl ?_
          refine r_int ?_
          refine r_idiv (by decide) ?_
          refine r_int ?_
          refine r_isub ?_
          refine r_int ?_
          obtain ⟨h33, hO⟩ := hO
          refine r_ast (y := (-5)) (env' := [(b + 1, f_reg), (b + 3, (upd f_memory (((y1 / 2) - 4 : Int32).toNatClampNeg) (-5))), (b + 4, u31.2.1), (b + 4 + 1, u31.2.2.1), (b + 4 + 2, u31.2.2.2.1), (b + 4 + 3, u31.2.2.2.2)]) 1 (((y1 / 2) - 4 : Int32).toNatClampNeg) (hn _ _ _ _ _ _) rfl hB.2.2.2.1 (by decide) rfl h33 rfl rfl rfl ?_
          generalize hg_g34 : upd f_memory (((y1 / 2) - 4 : Int32).toNatClampNeg) (-5) = g34 at hP hO ⊢
          try dsimp only at hP hO
          refine r_fall ?_
          refine r_aload rfl ?_
          refine r_iload rfl ?_
          have h36 := hO
          have k37 := fun (Q' : Option Int32 → mMH → Prop) hq => tX3_schedule (d := d + 0) (B := B) (v := mE v [(b + 1, f_reg), (b + 3, g34), (b + 4, u31.2.1), (b + 4 + 1, u31.2.2.1), (b + 4 + 2, u31.2.2.2.1), (b + 4 + 3, u31.2.2.2.2)]) (w := w) (Q := Q') hB (by omega) y1 f_reg g34 h36 hq
          generalize hg_u35 : FX3_schedule y1 f_reg g34 = u35 at k37 hP
          try dsimp only at hP
          refine r_callV (st := []) (o := b) (as := [.int y1]) (envc := [(b + 1, f_reg), (b + 3, g34)]) (envc' := [(b + 1, u35.2.1), (b + 3, u35.2.2)]) (env' := [(b + 1, u35.2.1), (b + 3, u35.2.2), (b + 4, u31.2.1), (b + 4 + 1, u31.2.2.1), (b + 4 + 2, u31.2.2.2.1), (b + 4 + 3, u31.2.2.2.2)]) (rv := none) [0, 1] (hn _ _ _ _ _ _) rfl rfl (Nat.le_of_ble_eq_true rfl) hB.1 rfl rfl rfl k37 ?_
          show RB _ _ _ _ _ [] _ _
          exact r_retv rfl (hPQ 0 u35.2.1 u35.2.2 u31.2.1 u31.2.2.1 u31.2.2.2.1 u31.2.2.2.2 hP)
  · rw [if_neg c3] at hP
    have hO := hO.2 c3
    refine r_aload rfl ?_
    refine r_getr (q := b + 3) hB.1 hB.2.2.2.2.2.2.2.2.2.2.2.2.1 ?_
    refine r_iload rfl ?_
    refine r_int ?_
    obtain ⟨h40, hO⟩ := hO
    refine r_ast (y := (-4)) (env' := [(b + 1, f_reg), (b + 3, (upd f_memory ((y2 : Int32).toNatClampNeg) (-4))), (b + 4, f_timers), (b + 4 + 1, f_timers_process), (b + 4 + 2, f_timers_time), (b + 4 + 3, f_timers_isBy)]) 1 ((y2 : Int32).toNatClampNeg) (hn _ _ _ _ _ _) rfl hB.2.2.2.1 (by decide) rfl h40 rfl rfl rfl ?_
    generalize hg_g41 : upd f_memory ((y2 : Int32).toNatClampNeg) (-4) = g41 at hP hO ⊢
    try dsimp only at hP hO
    refine r_fall ?_
    refine r_iload rfl ?_
    refine r_if1 (fun c42 : z0 = 0 => ?_) (fun c42 : ¬ (z0 = 0) => ?_)
    · rw [if_pos c42] at hP
      have hO := hO.1 c42
      exact r_retv rfl (hPQ 0 f_reg g41 f_timers f_timers_process f_timers_time f_timers_isBy hP)
    · rw [if_neg c42] at hP
      have hO := hO.2 c42
      refine r_aload rfl ?_
      refine r_getr (q := b + 4) hB.1 hB.2.2.2.2.2.2.2.2.2.2.2.2.2.1 ?_
      refine r_iload rfl ?_
      obtain ⟨h44, hO⟩ := hO
      have k57 := fun (Q' : Option Int32 → mMH → Prop) hq => tX6_findByTaltwt (d := d + 1) (B := B) (v := mE v [(b + 1, f_reg), (b + 3, g41), (b + 4, f_timers), (b + 4 + 1, f_timers_process), (b + 4 + 2, f_timers_time), (b + 4 + 3, f_timers_isBy)]) (w := w) (Q := Q') hB.2.2.2.2.2.1 y1 f_timers f_timers_process f_timers_isBy h44 hq
      generalize hg_u43 : FX6_findByTaltwt y1 f_timers f_timers_process f_timers_isBy = u43 at k57 hP hO
      try dsimp only at hP hO
      refine r_callV (st := []) (o := b + 4) (as := [.int y1]) (envc := [(b + 4, f_timers), (b + 4 + 1, f_timers_process), (b + 4 + 3, f_timers_isBy)]) (envc' := [(b + 4, f_timers), (b + 4 + 1, f_timers_process), (b + 4 + 3, f_timers_isBy)]) (env' := [(b + 1, f_reg), (b + 3, g41), (b + 4, f_timers), (b + 4 + 1, f_timers_process), (b + 4 + 2, f_timers_time), (b + 4 + 3, f_timers_isBy)]) (rv := some u43) [2, 3, 5] (hn _ _ _ _ _ _) rfl rfl (Nat.le_of_ble_eq_true rfl) hB.2.2.2.2.2.1.1 rfl rfl rfl k57 ?_
      show RB _ _ _ _ _ [.int u43] _ _
      refine r_istore (L' := [some (.ref b), some (.int y1), some (.int y2), some (.int z0), some (.int u43)]) rfl rfl ?_
      refine r_iload rfl ?_
      refine r_int ?_
      refine r_icmp (fun c45 : u43 = (-1) => ?_) (fun c45 : ¬ (u43 = (-1)) => ?_)
      · rw [if_pos c45] at hP
        have hO := hO.1 c45
        refine r_aload rfl ?_
        refine r_iload rfl ?_
        have h47 := hO
        have k48 := fun (Q' : Option Int32 → mMH → Prop) hq => tX3_schedule (d := d + 0) (B := B) (v := mE v [(b + 1, f_reg), (b + 3, g41), (b + 4, f_timers), (b + 4 + 1, f_timers_process), (b + 4 + 2, f_timers_time), (b + 4 + 3, f_timers_isBy)]) (w := w) (Q := Q') hB (by omega) y1 f_reg g41 h47 hq
        generalize hg_u46 : FX3_schedule y1 f_reg g41 = u46 at k48 hP
        try dsimp only at hP
        refine r_callV (st := []) (o := b) (as := [.int y1]) (envc := [(b + 1, f_reg), (b + 3, g41)]) (envc' := [(b + 1, u46.2.1), (b + 3, u46.2.2)]) (env' := [(b + 1, u46.2.1), (b + 3, u46.2.2), (b + 4, f_timers), (b + 4 + 1, f_timers_process), (b + 4 + 2, f_timers_time), (b + 4 + 3, f_timers_isBy)]) (rv := none) [0, 1] (hn _ _ _ _ _ _) rfl rfl (Nat.le_of_ble_eq_true rfl) hB.1 rfl rfl rfl k48 ?_
        show RB _ _ _ _ _ [] _ _
        exact r_retv rfl (hPQ 0 u46.2.1 u46.2.2 f_timers f_timers_process f_timers_time f_timers_isBy hP)
      · rw [if_neg c45] at hP
        have hO := hO.2 c45
        refine r_aload rfl ?_
        refine r_getr (q := b + 4) hB.1 hB.2.2.2.2.2.2.2.2.2.2.2.2.2.1 ?_
        refine r_iload rfl ?_
        obtain ⟨h50, hO⟩ := hO
        have k56 := fun (Q' : Option Int32 → mMH → Prop) hq => tX6_remove (d := d + 1) (B := B) (v := mE v [(b + 1, f_reg), (b + 3, g41), (b + 4, f_timers), (b + 4 + 1, f_timers_process), (b + 4 + 2, f_timers_time), (b + 4 + 3, f_timers_isBy)]) (w := w) (Q := Q') hB.2.2.2.2.2.1 u43 f_timers f_timers_process f_timers_time f_timers_isBy h50 hq
        generalize hg_u49 : FX6_remove u43 f_timers f_timers_process f_timers_time f_timers_isBy = u49 at k56 hP hO
        try dsimp only at hP hO
        refine r_callV (st := []) (o := b + 4) (as := [.int u43]) (envc := [(b + 4, f_timers), (b + 4 + 1, f_timers_process), (b + 4 + 2, f_timers_time), (b + 4 + 3, f_timers_isBy)]) (envc' := [(b + 4, u49.2.1), (b + 4 + 1, u49.2.2.1), (b + 4 + 2, u49.2.2.2.1), (b + 4 + 3, u49.2.2.2.2)]) (env' := [(b + 1, f_reg), (b + 3, g41), (b + 4, u49.2.1), (b + 4 + 1, u49.2.2.1), (b + 4 + 2, u49.2.2.2.1), (b + 4 + 3, u49.2.2.2.2)]) (rv := none) [2, 3, 4, 5] (hn _ _ _ _ _ _) rfl rfl (Nat.le_of_ble_eq_true rfl) hB.2.2.2.2.2.1.1 rfl rfl rfl k56 ?_
        show RB _ _ _ _ _ [] _ _
        refine r_aload rfl ?_
        refine r_getr (q := b + 3) hB.1 hB.2.2.2.2.2.2.2.2.2.2.2.2.1 ?_
        refine r_iload rfl ?_
        refine r_int ?_
        refine r_idiv (by decide) ?_
        refine r_int ?_
        refine r_isub ?_
        refine r_int ?_
        obtain ⟨h51, hO⟩ := hO
        refine r_ast (y := (-5)) (env' := [(b + 1, f_reg), (b + 3, (upd g41 (((y1 / 2) - 4 : Int32).toNatClampNeg) (-5))), (b + 4, u49.2.1), (b + 4 + 1, u49.2.2.1), (b + 4 + 2, u49.2.2.2.1), (b + 4 + 3, u49.2.2.2.2)]) 1 (((y1 / 2) - 4 : Int32).toNatClampNeg) (hn _ _ _ _ _ _) rfl hB.2.2.2.1 (by decide) rfl h51 rfl rfl rfl ?_
        generalize hg_g52 : upd g41 (((y1 / 2) - 4 : Int32).toNatClampNeg) (-5) = g52 at hP hO ⊢
        try dsimp only at hP hO
        refine r_fall ?_
        refine r_aload rfl ?_
        refine r_iload rfl ?_
        have h54 := hO
        have k55 := fun (Q' : Option Int32 → mMH → Prop) hq => tX3_schedule (d := d + 0) (B := B) (v := mE v [(b + 1, f_reg), (b + 3, g52), (b + 4, u49.2.1), (b + 4 + 1, u49.2.2.1), (b + 4 + 2, u49.2.2.2.1), (b + 4 + 3, u49.2.2.2.2)]) (w := w) (Q := Q') hB (by omega) y1 f_reg g52 h54 hq
        generalize hg_u53 : FX3_schedule y1 f_reg g52 = u53 at k55 hP
        try dsimp only at hP
        refine r_callV (st := []) (o := b) (as := [.int y1]) (envc := [(b + 1, f_reg), (b + 3, g52)]) (envc' := [(b + 1, u53.2.1), (b + 3, u53.2.2)]) (env' := [(b + 1, u53.2.1), (b + 3, u53.2.2), (b + 4, u49.2.1), (b + 4 + 1, u49.2.2.1), (b + 4 + 2, u49.2.2.2.1), (b + 4 + 3, u49.2.2.2.2)]) (rv := none) [0, 1] (hn _ _ _ _ _ _) rfl rfl (Nat.le_of_ble_eq_true rfl) hB.1 rfl rfl rfl k55 ?_
        show RB _ _ _ _ _ [] _ _
        exact r_retv rfl (hPQ 0 u53.2.1 u53.2.2 u49.2.1 u49.2.2.1 u49.2.2.2.1 u49.2.2.2.2 hP)
def FX3_alert (x1 : Int32) (f_reg : mF) (f_memory : mF) (f_timers : mF) (f_timers_process : mF) (f_timers_time : mF) (f_timers_isBy : mF) : Int32 × mF × mF × mF × mF × mF × mF :=
  if (f_memory (((x1 / 2) - 3 : Int32).toNatClampNeg)) = (-3) then (FX3_alert_b2 x1 ((x1 / 2) - 3) 1 f_reg f_memory f_timers f_timers_process f_timers_time f_timers_isBy) else (FX3_alert_b2 x1 ((x1 / 2) - 3) 0 f_reg f_memory f_timers f_timers_process f_timers_time f_timers_isBy)
def OX3_alert (x1 : Int32) (f_reg : mF) (f_memory : mF) (f_timers : mF) (f_timers_process : mF) (f_timers_time : mF) (f_timers_isBy : mF) : Prop :=
  vp_in ((x1 / 2) - 3) 96 ∧ (((f_memory (((x1 / 2) - 3 : Int32).toNatClampNeg)) = (-3) → (OX3_alert_b2 x1 ((x1 / 2) - 3) 1 f_reg f_memory f_timers f_timers_process f_timers_time f_timers_isBy)) ∧ (¬ ((f_memory (((x1 / 2) - 3 : Int32).toNatClampNeg)) = (-3)) → (OX3_alert_b2 x1 ((x1 / 2) - 3) 0 f_reg f_memory f_timers f_timers_process f_timers_time f_timers_isBy)))
set_option maxRecDepth 20000 in
theorem tX3_alert {d : Nat} {B : mB} {v : mV} {w : mX} {Q : Option Int32 → mMH → Prop} {b g : Nat} (hB : isMach B b g) (hd : g + 2 ≤ b) (x1 : Int32) (f_reg : mF) (f_memory : mF) (f_timers : mF) (f_timers_process : mF) (f_timers_time : mF) (f_timers_isBy : mF) (hO : OX3_alert x1 f_reg f_memory f_timers f_timers_process f_timers_time f_timers_isBy) (hQ : Q (none) (mH B (mE v [(b + 1, (FX3_alert x1 f_reg f_memory f_timers f_timers_process f_timers_time f_timers_isBy).2.1), (b + 3, (FX3_alert x1 f_reg f_memory f_timers f_timers_process f_timers_time f_timers_isBy).2.2.1), (b + 4, (FX3_alert x1 f_reg f_memory f_timers f_timers_process f_timers_time f_timers_isBy).2.2.2.1), (b + 4 + 1, (FX3_alert x1 f_reg f_memory f_timers f_timers_process f_timers_time f_timers_isBy).2.2.2.2.1), (b + 4 + 2, (FX3_alert x1 f_reg f_memory f_timers f_timers_process f_timers_time f_timers_isBy).2.2.2.2.2.1), (b + 4 + 3, (FX3_alert x1 f_reg f_memory f_timers f_timers_process f_timers_time f_timers_isBy).2.2.2.2.2.2)]) w)) : CQ (d + 3) 55 [.ref b, .int x1] (mH B (mE v [(b + 1, f_reg), (b + 3, f_memory), (b + 4, f_timers), (b + 4 + 1, f_timers_process), (b + 4 + 2, f_timers_time), (b + 4 + 3, f_timers_isBy)]) w) Q := by
  have hn : ∀ (f_reg : mF) (f_memory : mF) (f_timers : mF) (f_timers_process : mF) (f_timers_time : mF) (f_timers_isBy : mF), mNd [(b + 1, f_reg), (b + 3, f_memory), (b + 4, f_timers), (b + 4 + 1, f_timers_process), (b + 4 + 2, f_timers_time), (b + 4 + 3, f_timers_isBy)] := fun _ _ _ _ _ _ => by
    show List.Nodup _
    simp only [List.map_cons, List.map_nil, List.nodup_cons, List.mem_cons, List.not_mem_nil, or_false, not_or, not_false_eq_true, List.nodup_nil, and_true]
    omega
  obtain ⟨P, hPQ, hP⟩ : ∃ P : Int32 × mF × mF × mF × mF × mF × mF → Prop, (∀ (q : Int32) (q0 : mF) (q1 : mF) (q2 : mF) (q3 : mF) (q4 : mF) (q5 : mF), P (q, q0, q1, q2, q3, q4, q5) → Q (none) (mH B (mE v [(b + 1, q0), (b + 3, q1), (b + 4, q2), (b + 4 + 1, q3), (b + 4 + 2, q4), (b + 4 + 3, q5)]) w)) ∧ P (FX3_alert x1 f_reg f_memory f_timers f_timers_process f_timers_time f_timers_isBy) := ⟨fun res => Q (none) (mH B (mE v [(b + 1, res.2.1), (b + 3, res.2.2.1), (b + 4, res.2.2.2.1), (b + 4 + 1, res.2.2.2.2.1), (b + 4 + 2, res.2.2.2.2.2.1), (b + 4 + 3, res.2.2.2.2.2.2)]) w), fun _ _ _ _ _ _ _ h => h, hQ⟩
  refine r_begin mt_55 (by intro a ha; simp only [List.mem_cons, List.not_mem_nil, or_false] at ha; rcases ha with rfl | rfl <;> rfl) (Nat.le_of_ble_eq_true rfl) ?_
  rw [FX3_alert] at hP
  rw [OX3_alert] at hO
  show RB _ _ _ _ [some (.ref b), some (.int x1), none, none, none] [] _ _
  refine r_iload rfl ?_
  refine r_int ?_
  refine r_idiv (by decide) ?_
  refine r_int ?_
  refine r_isub ?_
  refine r_istore (L' := [some (.ref b), some (.int x1), some (.int ((x1 / 2) - 3)), none, none]) rfl rfl ?_
  refine r_aload rfl ?_
  refine r_getr (q := b + 3) hB.1 hB.2.2.2.2.2.2.2.2.2.2.2.2.1 ?_
  refine r_iload rfl ?_
  obtain ⟨h1, hO⟩ := hO
  refine r_ald (x := f_memory (((x1 / 2) - 3 : Int32).toNatClampNeg)) 1 (((x1 / 2) - 3 : Int32).toNatClampNeg) (hn _ _ _ _ _ _) rfl hB.2.2.2.1 (by decide) rfl h1 rfl rfl ?_
  refine r_int ?_
  refine r_icmp1 (fun c2 : (f_memory (((x1 / 2) - 3 : Int32).toNatClampNeg)) = (-3) => ?_) (fun c2 : ¬ ((f_memory (((x1 / 2) - 3 : Int32).toNatClampNeg)) = (-3)) => ?_)
  · rw [if_pos c2] at hP
    have hO := hO.1 c2
    refine r_int ?_
    refine r_goto ?_
    exact tX3_alert_b2 hB hd hPQ x1 ((x1 / 2) - 3) 1 none rfl none rfl f_reg f_memory f_timers f_timers_process f_timers_time f_timers_isBy hO hP
  · rw [if_neg c2] at hP
    have hO := hO.2 c2
    refine r_int ?_
    refine r_fall ?_
    exact tX3_alert_b2 hB hd hPQ x1 ((x1 / 2) - 3) 0 none rfl none rfl f_reg f_memory f_timers f_timers_process f_timers_time f_timers_isBy hO hP

def FX3_meet_b1 : Nat → Int32 → Int32 → Int32 → Int32 → Int32 → Int32 → Int32 → mF → mF
  | 0, _, _, _, _, _, _, _, f_memory => f_memory
  | n + 1, y1, y2, y3, y4, y5, y6, y7, f_memory =>
    if y4 ≤ y7 then (f_memory) else (if y1 = 0 then (let g6 := upd f_memory ((y5 + y7 : Int32).toNatClampNeg) (f_memory ((y6 + y7 : Int32).toNatClampNeg)); FX3_meet_b1 n y1 y2 y3 y4 y5 y6 (y7 + 1) g6) else (let g9 := upd f_memory ((y6 + y7 : Int32).toNatClampNeg) (f_memory ((y5 + y7 : Int32).toNatClampNeg)); FX3_meet_b1 n y1 y2 y3 y4 y5 y6 (y7 + 1) g9))
def OX3_meet_b1 : Nat → Int32 → Int32 → Int32 → Int32 → Int32 → Int32 → Int32 → mF → Prop
  | 0, _, _, _, _, _, _, _, _ => False
  | n + 1, y1, y2, y3, y4, y5, y6, y7, f_memory =>
    (y4 ≤ y7 → True) ∧ (¬ (y4 ≤ y7) → ((y1 = 0 → (vp_in (y6 + y7) 96 ∧ (vp_in (y5 + y7) 96 ∧ (let g6 := upd f_memory ((y5 + y7 : Int32).toNatClampNeg) (f_memory ((y6 + y7 : Int32).toNatClampNeg)); OX3_meet_b1 n y1 y2 y3 y4 y5 y6 (y7 + 1) g6)))) ∧ (¬ (y1 = 0) → (vp_in (y5 + y7) 96 ∧ (vp_in (y6 + y7) 96 ∧ (let g9 := upd f_memory ((y6 + y7 : Int32).toNatClampNeg) (f_memory ((y5 + y7 : Int32).toNatClampNeg)); OX3_meet_b1 n y1 y2 y3 y4 y5 y6 (y7 + 1) g9))))))
set_option maxRecDepth 20000 in
theorem tX3_meet_b1 {d : Nat} {B : mB} {v : mV} {w : mX} {Q : Option Int32 → mMH → Prop} {b g : Nat} (hB : isMach B b g) (hd : g + 2 ≤ b) (y1 : Int32) (y2 : Int32) (y3 : Int32) (y4 : Int32) (y5 : Int32) (y6 : Int32) {u : mF} {f_this : mF} {f_reg : mF} {f_dia : mF} {f_dia_meetings : mF} (hK : ∀ (e5 : Option Value) (he5 : mC1 e5 = true) (e6 : Option Value) (he6 : mC1 e6 = true) (e7 : Option Value) (he7 : mC1 e7 = true), RJ (d + 2) kX3_meet (none) 4 [some (.ref b), some (.int y1), some (.int y2), some (.int y3), some (.int y4), e5, e6, e7] [] (mH B (mE v [(b, f_this), (b + 1, f_reg), (b + 3, u), (g, f_dia), (g + 1, f_dia_meetings)]) w) Q) : ∀ (n : Nat) (y7 : Int32) (f_memory : mF), OX3_meet_b1 n y1 y2 y3 y4 y5 y6 y7 f_memory → FX3_meet_b1 n y1 y2 y3 y4 y5 y6 y7 f_memory = u → RJ (d + 2) kX3_meet (none) 1 [some (.ref b), some (.int y1), some (.int y2), some (.int y3), some (.int y4), some (.int y5), some (.int y6), some (.int y7)] [] (mH B (mE v [(b, f_this), (b + 1, f_reg), (b + 3, f_memory), (g, f_dia), (g + 1, f_dia_meetings)]) w) Q := by
  intro n
  induction n with
  | zero => exact fun _ _ hO => hO.elim
  | succ n ih1 =>
    intro y7 f_memory hO hP
    rw [FX3_meet_b1] at hP
    rw [OX3_meet_b1] at hO
    have hn : ∀ (f_this : mF) (f_reg : mF) (f_memory : mF) (f_dia : mF) (f_dia_meetings : mF), mNd [(b, f_this), (b + 1, f_reg), (b + 3, f_memory), (g, f_dia), (g + 1, f_dia_meetings)] := fun _ _ _ _ _ => by
      show List.Nodup _
      simp only [List.map_cons, List.map_nil, List.nodup_cons, List.mem_cons, List.not_mem_nil, or_false, not_or, not_false_eq_true, List.nodup_nil, and_true]
      omega
    show RB _ _ _ _ [some (.ref b), some (.int y1), some (.int y2), some (.int y3), some (.int y4), some (.int y5), some (.int y6), some (.int y7)] [] _ _
    refine r_iload rfl ?_
    refine r_iload rfl ?_
    refine r_icmp (fun c2 : y4 ≤ y7 => ?_) (fun c2 : ¬ (y4 ≤ y7) => ?_)
    · rw [if_pos c2] at hP
      have hO := hO.1 c2
      subst hP
      exact hK (some (.int y5)) rfl (some (.int y6)) rfl (some (.int y7)) rfl
    · rw [if_neg c2] at hP
      have hO := hO.2 c2
      refine r_iload rfl ?_
      refine r_if (fun c3 : y1 = 0 => ?_) (fun c3 : ¬ (y1 = 0) => ?_)
      · rw [if_pos c3] at hP
        have hO := hO.1 c3
        refine r_aload rfl ?_
        refine r_getr (q := b + 3) hB.1 hB.2.2.2.2.2.2.2.2.2.2.2.2.1 ?_
        refine r_iload rfl ?_
        refine r_iload rfl ?_
        refine r_iadd ?_
        refine r_aload rfl ?_
        refine r_getr (q := b + 3) hB.1 hB.2.2.2.2.2.2.2.2.2.2.2.2.1 ?_
        refine r_iload rfl ?_
        refine r_iload rfl ?_
        refine r_iadd ?_
        obtain ⟨h4, hO⟩ := hO
        refine r_ald (x := f_memory ((y6 + y7 : Int32).toNatClampNeg)) 2 ((y6 + y7 : Int32).toNatClampNeg) (hn _ _ _ _ _) rfl hB.2.2.2.1 (by decide) rfl h4 rfl rfl ?_
        obtain ⟨h5, hO⟩ := hO
        refine r_ast (y := f_memory ((y6 + y7 : Int32).toNatClampNeg)) (env' := [(b, f_this), (b + 1, f_reg), (b + 3, (upd f_memory ((y5 + y7 : Int32).toNatClampNeg) (f_memory ((y6 + y7 : Int32).toNatClampNeg)))), (g, f_dia), (g + 1, f_dia_meetings)]) 2 ((y5 + y7 : Int32).toNatClampNeg) (hn _ _ _ _ _) rfl hB.2.2.2.1 (by decide) rfl h5 rfl rfl rfl ?_
        generalize hg_g6 : upd f_memory ((y5 + y7 : Int32).toNatClampNeg) (f_memory ((y6 + y7 : Int32).toNatClampNeg)) = g6 at hP hO ⊢
        try dsimp only at hP hO
        refine r_fall ?_
        refine r_iinc (L' := [some (.ref b), some (.int y1), some (.int y2), some (.int y3), some (.int y4), some (.int y5), some (.int y6), some (.int (y7 + 1))]) rfl rfl rfl ?_
        refine r_goto ?_
        exact ih1 (y7 + 1) g6 hO hP
      · rw [if_neg c3] at hP
        have hO := hO.2 c3
        refine r_aload rfl ?_
        refine r_getr (q := b + 3) hB.1 hB.2.2.2.2.2.2.2.2.2.2.2.2.1 ?_
        refine r_iload rfl ?_
        refine r_iload rfl ?_
        refine r_iadd ?_
        refine r_aload rfl ?_
        refine r_getr (q := b + 3) hB.1 hB.2.2.2.2.2.2.2.2.2.2.2.2.1 ?_
        refine r_iload rfl ?_
        refine r_iload rfl ?_
        refine r_iadd ?_
        obtain ⟨h7, hO⟩ := hO
        refine r_ald (x := f_memory ((y5 + y7 : Int32).toNatClampNeg)) 2 ((y5 + y7 : Int32).toNatClampNeg) (hn _ _ _ _ _) rfl hB.2.2.2.1 (by decide) rfl h7 rfl rfl ?_
        obtain ⟨h8, hO⟩ := hO
        refine r_ast (y := f_memory ((y5 + y7 : Int32).toNatClampNeg)) (env' := [(b, f_this), (b + 1, f_reg), (b + 3, (upd f_memory ((y6 + y7 : Int32).toNatClampNeg) (f_memory ((y5 + y7 : Int32).toNatClampNeg)))), (g, f_dia), (g + 1, f_dia_meetings)]) 2 ((y6 + y7 : Int32).toNatClampNeg) (hn _ _ _ _ _) rfl hB.2.2.2.1 (by decide) rfl h8 rfl rfl rfl ?_
        generalize hg_g9 : upd f_memory ((y6 + y7 : Int32).toNatClampNeg) (f_memory ((y5 + y7 : Int32).toNatClampNeg)) = g9 at hP hO ⊢
        try dsimp only at hP hO
        refine r_goto ?_
        refine r_iinc (L' := [some (.ref b), some (.int y1), some (.int y2), some (.int y3), some (.int y4), some (.int y5), some (.int y6), some (.int (y7 + 1))]) rfl rfl rfl ?_
        refine r_goto ?_
        exact ih1 (y7 + 1) g9 hO hP
def FX3_meet (x1 : Int32) (x2 : Int32) (x3 : Int32) (x4 : Int32) (x5 : Int32) (f_this : mF) (f_reg : mF) (f_memory : mF) (f_dia : mF) (f_dia_meetings : mF) : Int32 × mF × mF × mF × mF :=
  let u10 := FX3_meet_b1 10000 x1 x2 x3 x4 x5 (f_memory (((x3 / 2) - 3 : Int32).toNatClampNeg)) 0 f_memory; let g16 := upd u10 ((x2 : Int32).toNatClampNeg) (-1); let u17 := FX3_schedule x3 f_reg g16; if x1 = 0 then (if x1 = 0 then (let u21 := FX3_own u17.2.1; let u22 := FX0_note (f_this 0) x2 x3 u21 x4 f_dia f_dia_meetings; (0, u17.2.1, u17.2.2, u22.2.1, u22.2.2)) else (let u26 := FX0_note (f_this 0) x2 x3 x3 x4 f_dia f_dia_meetings; (0, u17.2.1, u17.2.2, u26.2.1, u26.2.2))) else (let u29 := FX3_own u17.2.1; if x1 = 0 then (let u31 := FX0_note (f_this 0) x2 u29 u29 x4 f_dia f_dia_meetings; (0, u17.2.1, u17.2.2, u31.2.1, u31.2.2)) else (let u35 := FX0_note (f_this 0) x2 u29 x3 x4 f_dia f_dia_meetings; (0, u17.2.1, u17.2.2, u35.2.1, u35.2.2)))
def OX3_meet (x1 : Int32) (x2 : Int32) (x3 : Int32) (x4 : Int32) (x5 : Int32) (f_this : mF) (f_reg : mF) (f_memory : mF) (f_dia : mF) (f_dia_meetings : mF) : Prop :=
  vp_in ((x3 / 2) - 3) 96 ∧ (OX3_meet_b1 10000 x1 x2 x3 x4 x5 (f_memory (((x3 / 2) - 3 : Int32).toNatClampNeg)) 0 f_memory ∧ (let u10 := FX3_meet_b1 10000 x1 x2 x3 x4 x5 (f_memory (((x3 / 2) - 3 : Int32).toNatClampNeg)) 0 f_memory; vp_in x2 96 ∧ (let g16 := upd u10 ((x2 : Int32).toNatClampNeg) (-1); OX3_schedule x3 f_reg g16 ∧ (let u17 := FX3_schedule x3 f_reg g16; (x1 = 0 → ((x1 = 0 → ((let u21 := FX3_own u17.2.1; OX0_note (f_this 0) x2 x3 u21 x4 f_dia f_dia_meetings))) ∧ (¬ (x1 = 0) → (OX0_note (f_this 0) x2 x3 x3 x4 f_dia f_dia_meetings)))) ∧ (¬ (x1 = 0) → ((let u29 := FX3_own u17.2.1; (x1 = 0 → (OX0_note (f_this 0) x2 u29 u29 x4 f_dia f_dia_meetings)) ∧ (¬ (x1 = 0) → (OX0_note (f_this 0) x2 u29 x3 x4 f_dia f_dia_meetings)))))))))
set_option maxRecDepth 20000 in
theorem tX3_meet {d : Nat} {B : mB} {v : mV} {w : mX} {Q : Option Int32 → mMH → Prop} {b g : Nat} (hB : isMach B b g) (hd : g + 2 ≤ b) (x1 : Int32) (x2 : Int32) (x3 : Int32) (x4 : Int32) (x5 : Int32) (f_this : mF) (f_reg : mF) (f_memory : mF) (f_dia : mF) (f_dia_meetings : mF) (hO : OX3_meet x1 x2 x3 x4 x5 f_this f_reg f_memory f_dia f_dia_meetings) (hQ : Q (none) (mH B (mE v [(b, f_this), (b + 1, (FX3_meet x1 x2 x3 x4 x5 f_this f_reg f_memory f_dia f_dia_meetings).2.1), (b + 3, (FX3_meet x1 x2 x3 x4 x5 f_this f_reg f_memory f_dia f_dia_meetings).2.2.1), (g, (FX3_meet x1 x2 x3 x4 x5 f_this f_reg f_memory f_dia f_dia_meetings).2.2.2.1), (g + 1, (FX3_meet x1 x2 x3 x4 x5 f_this f_reg f_memory f_dia f_dia_meetings).2.2.2.2)]) w)) : CQ (d + 3) 53 [.ref b, .int x1, .int x2, .int x3, .int x4, .int x5] (mH B (mE v [(b, f_this), (b + 1, f_reg), (b + 3, f_memory), (g, f_dia), (g + 1, f_dia_meetings)]) w) Q := by
  have hn : ∀ (f_this : mF) (f_reg : mF) (f_memory : mF) (f_dia : mF) (f_dia_meetings : mF), mNd [(b, f_this), (b + 1, f_reg), (b + 3, f_memory), (g, f_dia), (g + 1, f_dia_meetings)] := fun _ _ _ _ _ => by
    show List.Nodup _
    simp only [List.map_cons, List.map_nil, List.nodup_cons, List.mem_cons, List.not_mem_nil, or_false, not_or, not_false_eq_true, List.nodup_nil, and_true]
    omega
  obtain ⟨P, hPQ, hP⟩ : ∃ P : Int32 × mF × mF × mF × mF → Prop, (∀ (q : Int32) (q0 : mF) (q1 : mF) (q2 : mF) (q3 : mF), P (q, q0, q1, q2, q3) → Q (none) (mH B (mE v [(b, f_this), (b + 1, q0), (b + 3, q1), (g, q2), (g + 1, q3)]) w)) ∧ P (FX3_meet x1 x2 x3 x4 x5 f_this f_reg f_memory f_dia f_dia_meetings) := ⟨fun res => Q (none) (mH B (mE v [(b, f_this), (b + 1, res.2.1), (b + 3, res.2.2.1), (g, res.2.2.2.1), (g + 1, res.2.2.2.2)]) w), fun _ _ _ _ _ h => h, hQ⟩
  refine r_begin mt_53 (by intro a ha; simp only [List.mem_cons, List.not_mem_nil, or_false] at ha; rcases ha with rfl | rfl | rfl | rfl | rfl | rfl <;> rfl) (Nat.le_of_ble_eq_true rfl) ?_
  rw [FX3_meet] at hP
  rw [OX3_meet] at hO
  show RB _ _ _ _ [some (.ref b), some (.int x1), some (.int x2), some (.int x3), some (.int x4), some (.int x5), none, none] [] _ _
  refine r_aload rfl ?_
  refine r_getr (q := b + 3) hB.1 hB.2.2.2.2.2.2.2.2.2.2.2.2.1 ?_
  refine r_iload rfl ?_
  refine r_int ?_
  refine r_idiv (by decide) ?_
  refine r_int ?_
  refine r_isub ?_
  obtain ⟨h1, hO⟩ := hO
  refine r_ald (x := f_memory (((x3 / 2) - 3 : Int32).toNatClampNeg)) 2 (((x3 / 2) - 3 : Int32).toNatClampNeg) (hn _ _ _ _ _) rfl hB.2.2.2.1 (by decide) rfl h1 rfl rfl ?_
  refine r_istore (L' := [some (.ref b), some (.int x1), some (.int x2), some (.int x3), some (.int x4), some (.int x5), some (.int (f_memory (((x3 / 2) - 3 : Int32).toNatClampNeg))), none]) rfl rfl ?_
  refine r_int ?_
  refine r_istore (L' := [some (.ref b), some (.int x1), some (.int x2), some (.int x3), some (.int x4), some (.int x5), some (.int (f_memory (((x3 / 2) - 3 : Int32).toNatClampNeg))), some (.int 0)]) rfl rfl ?_
  refine r_fall ?_
  obtain ⟨h11, hO⟩ := hO
  generalize hg_u10 : FX3_meet_b1 10000 x1 x2 x3 x4 x5 (f_memory (((x3 / 2) - 3 : Int32).toNatClampNeg)) 0 f_memory = u10 at hP hO
  try dsimp only at hP hO
  refine tX3_meet_b1 hB hd x1 x2 x3 x4 x5 (f_memory (((x3 / 2) - 3 : Int32).toNatClampNeg)) (u := u10) (f_this := f_this) (f_reg := f_reg) (f_dia := f_dia) (f_dia_meetings := f_dia_meetings) ?_ 10000 0 f_memory h11 hg_u10
  intro e12 he12 e13 he13 e14 he14
  refine r_aload rfl ?_
  refine r_getr (q := b + 3) hB.1 hB.2.2.2.2.2.2.2.2.2.2.2.2.1 ?_
  refine r_iload rfl ?_
  refine r_int ?_
  obtain ⟨h15, hO⟩ := hO
  refine r_ast (y := (-1)) (env' := [(b, f_this), (b + 1, f_reg), (b + 3, (upd u10 ((x2 : Int32).toNatClampNeg) (-1))), (g, f_dia), (g + 1, f_dia_meetings)]) 2 ((x2 : Int32).toNatClampNeg) (hn _ _ _ _ _) rfl hB.2.2.2.1 (by decide) rfl h15 rfl rfl rfl ?_
  generalize hg_g16 : upd u10 ((x2 : Int32).toNatClampNeg) (-1) = g16 at hP hO ⊢
  try dsimp only at hP hO
  refine r_aload rfl ?_
  refine r_iload rfl ?_
  obtain ⟨h18, hO⟩ := hO
  have k39 := fun (Q' : Option Int32 → mMH → Prop) hq => tX3_schedule (d := d + 0) (B := B) (v := mE v [(b, f_this), (b + 1, f_reg), (b + 3, g16), (g, f_dia), (g + 1, f_dia_meetings)]) (w := w) (Q := Q') hB (by omega) x3 f_reg g16 h18 hq
  generalize hg_u17 : FX3_schedule x3 f_reg g16 = u17 at k39 hP hO
  try dsimp only at hP hO
  refine r_callV (st := []) (o := b) (as := [.int x3]) (envc := [(b + 1, f_reg), (b + 3, g16)]) (envc' := [(b + 1, u17.2.1), (b + 3, u17.2.2)]) (env' := [(b, f_this), (b + 1, u17.2.1), (b + 3, u17.2.2), (g, f_dia), (g + 1, f_dia_meetings)]) (rv := none) [1, 2] (hn _ _ _ _ _) rfl rfl (Nat.le_of_ble_eq_true rfl) hB.1 rfl rfl rfl k39 ?_
  show RB _ _ _ _ _ [] _ _
  refine r_aload rfl ?_
  refine r_getr (q := g) hB.1 hB.2.2.2.2.2.2.2.2.2.1 ?_
  refine r_aload rfl ?_
  refine r_get (x := f_this 0) 0 (hn _ _ _ _ _) rfl hB.1 (by decide) rfl ?_
  refine r_iload rfl ?_
  refine r_iload rfl ?_
  refine r_if (fun c19 : x1 = 0 => ?_) (fun c19 : ¬ (x1 = 0) => ?_)
  · rw [if_pos c19] at hP
    have hO := hO.1 c19
    refine r_iload rfl ?_
    refine r_fall ?_
    refine r_iload rfl ?_
    refine r_if (fun c20 : x1 = 0 => ?_) (fun c20 : ¬ (x1 = 0) => ?_)
    · rw [if_pos c20] at hP
      have hO := hO.1 c20
      refine r_aload rfl ?_
      have k25 := fun (Q' : Option Int32 → mMH → Prop) hq => tX3_own (d := d + 1) (B := B) (v := mE v [(b, f_this), (b + 1, u17.2.1), (b + 3, u17.2.2), (g, f_dia), (g + 1, f_dia_meetings)]) (w := w) (Q := Q') hB (by omega) u17.2.1 hq
      generalize hg_u21 : FX3_own u17.2.1 = u21 at k25 hP hO
      try dsimp only at hP hO
      refine r_callV (st := [.int x3, .int x2, .int (f_this 0), .ref g]) (o := b) (as := []) (envc := [(b + 1, u17.2.1)]) (envc' := [(b + 1, u17.2.1)]) (env' := [(b, f_this), (b + 1, u17.2.1), (b + 3, u17.2.2), (g, f_dia), (g + 1, f_dia_meetings)]) (rv := some u21) [1] (hn _ _ _ _ _) rfl rfl (Nat.le_of_ble_eq_true rfl) hB.1 rfl rfl rfl k25 ?_
      show RB _ _ _ _ _ [.int u21, .int x3, .int x2, .int (f_this 0), .ref g] _ _
      refine r_fall ?_
      refine r_iload rfl ?_
      have h23 := hO
      have k24 := fun (Q' : Option Int32 → mMH → Prop) hq => tX0_note (d := d + 1) (B := B) (v := mE v [(b, f_this), (b + 1, u17.2.1), (b + 3, u17.2.2), (g, f_dia), (g + 1, f_dia_meetings)]) (w := w) (Q := Q') hB.2.2.2.2.2.2.2.2.1 (f_this 0) x2 x3 u21 x4 f_dia f_dia_meetings h23 hq
      generalize hg_u22 : FX0_note (f_this 0) x2 x3 u21 x4 f_dia f_dia_meetings = u22 at k24 hP
      try dsimp only at hP
      refine r_callV (st := []) (o := g) (as := [.int (f_this 0), .int x2, .int x3, .int u21, .int x4]) (envc := [(g, f_dia), (g + 1, f_dia_meetings)]) (envc' := [(g, u22.2.1), (g + 1, u22.2.2)]) (env' := [(b, f_this), (b + 1, u17.2.1), (b + 3, u17.2.2), (g, u22.2.1), (g + 1, u22.2.2)]) (rv := none) [3, 4] (hn _ _ _ _ _) rfl rfl (Nat.le_of_ble_eq_true rfl) hB.2.2.2.2.2.2.2.2.1.1 rfl rfl rfl k24 ?_
      show RB _ _ _ _ _ [] _ _
      exact r_retv rfl (hPQ 0 u17.2.1 u17.2.2 u22.2.1 u22.2.2 hP)
    · rw [if_neg c20] at hP
      have hO := hO.2 c20
      refine r_iload rfl ?_
      refine r_goto ?_
      refine r_iload rfl ?_
      have h27 := hO
      have k28 := fun (Q' : Option Int32 → mMH → Prop) hq => tX0_note (d := d + 1) (B := B) (v := mE v [(b, f_this), (b + 1, u17.2.1), (b + 3, u17.2.2), (g, f_dia), (g + 1, f_dia_meetings)]) (w := w) (Q := Q') hB.2.2.2.2.2.2.2.2.1 (f_this 0) x2 x3 x3 x4 f_dia f_dia_meetings h27 hq
      generalize hg_u26 : FX0_note (f_this 0) x2 x3 x3 x4 f_dia f_dia_meetings = u26 at k28 hP
      try dsimp only at hP
      refine r_callV (st := []) (o := g) (as := [.int (f_this 0), .int x2, .int x3, .int x3, .int x4]) (envc := [(g, f_dia), (g + 1, f_dia_meetings)]) (envc' := [(g, u26.2.1), (g + 1, u26.2.2)]) (env' := [(b, f_this), (b + 1, u17.2.1), (b + 3, u17.2.2), (g, u26.2.1), (g + 1, u26.2.2)]) (rv := none) [3, 4] (hn _ _ _ _ _) rfl rfl (Nat.le_of_ble_eq_true rfl) hB.2.2.2.2.2.2.2.2.1.1 rfl rfl rfl k28 ?_
      show RB _ _ _ _ _ [] _ _
      exact r_retv rfl (hPQ 0 u17.2.1 u17.2.2 u26.2.1 u26.2.2 hP)
  · rw [if_neg c19] at hP
    have hO := hO.2 c19
    refine r_aload rfl ?_
    have k38 := fun (Q' : Option Int32 → mMH → Prop) hq => tX3_own (d := d + 1) (B := B) (v := mE v [(b, f_this), (b + 1, u17.2.1), (b + 3, u17.2.2), (g, f_dia), (g + 1, f_dia_meetings)]) (w := w) (Q := Q') hB (by omega) u17.2.1 hq
    generalize hg_u29 : FX3_own u17.2.1 = u29 at k38 hP hO
    try dsimp only at hP hO
    refine r_callV (st := [.int x2, .int (f_this 0), .ref g]) (o := b) (as := []) (envc := [(b + 1, u17.2.1)]) (envc' := [(b + 1, u17.2.1)]) (env' := [(b, f_this), (b + 1, u17.2.1), (b + 3, u17.2.2), (g, f_dia), (g + 1, f_dia_meetings)]) (rv := some u29) [1] (hn _ _ _ _ _) rfl rfl (Nat.le_of_ble_eq_true rfl) hB.1 rfl rfl rfl k38 ?_
    show RB _ _ _ _ _ [.int u29, .int x2, .int (f_this 0), .ref g] _ _
    refine r_goto ?_
    refine r_iload rfl ?_
    refine r_if (fun c30 : x1 = 0 => ?_) (fun c30 : ¬ (x1 = 0) => ?_)
    · rw [if_pos c30] at hP
      have hO := hO.1 c30
      refine r_aload rfl ?_
      have k34 := fun (Q' : Option Int32 → mMH → Prop) hq => tX3_own (d := d + 1) (B := B) (v := mE v [(b, f_this), (b + 1, u17.2.1), (b + 3, u17.2.2), (g, f_dia), (g + 1, f_dia_meetings)]) (w := w) (Q := Q') hB (by omega) u17.2.1 hq
      rw [hg_u29] at k34
      refine r_callV (st := [.int u29, .int x2, .int (f_this 0), .ref g]) (o := b) (as := []) (envc := [(b + 1, u17.2.1)]) (envc' := [(b + 1, u17.2.1)]) (env' := [(b, f_this), (b + 1, u17.2.1), (b + 3, u17.2.2), (g, f_dia), (g + 1, f_dia_meetings)]) (rv := some u29) [1] (hn _ _ _ _ _) rfl rfl (Nat.le_of_ble_eq_true rfl) hB.1 rfl rfl rfl k34 ?_
      show RB _ _ _ _ _ [.int u29, .int u29, .int x2, .int (f_this 0), .ref g] _ _
      refine r_fall ?_
      refine r_iload rfl ?_
      have h32 := hO
      have k33 := fun (Q' : Option Int32 → mMH → Prop) hq => tX0_note (d := d + 1) (B := B) (v := mE v [(b, f_this), (b + 1, u17.2.1), (b + 3, u17.2.2), (g, f_dia), (g + 1, f_dia_meetings)]) (w := w) (Q := Q') hB.2.2.2.2.2.2.2.2.1 (f_this 0) x2 u29 u29 x4 f_dia f_dia_meetings h32 hq
      generalize hg_u31 : FX0_note (f_this 0) x2 u29 u29 x4 f_dia f_dia_meetings = u31 at k33 hP
      try dsimp only at hP
      refine r_callV (st := []) (o := g) (as := [.int (f_this 0), .int x2, .int u29, .int u29, .int x4]) (envc := [(g, f_dia), (g + 1, f_dia_meetings)]) (envc' := [(g, u31.2.1), (g + 1, u31.2.2)]) (env' := [(b, f_this), (b + 1, u17.2.1), (b + 3, u17.2.2), (g, u31.2.1), (g + 1, u31.2.2)]) (rv := none) [3, 4] (hn _ _ _ _ _) rfl rfl (Nat.le_of_ble_eq_true rfl) hB.2.2.2.2.2.2.2.2.1.1 rfl rfl rfl k33 ?_
      show RB _ _ _ _ _ [] _ _
      exact r_retv rfl (hPQ 0 u17.2.1 u17.2.2 u31.2.1 u31.2.2 hP)
    · rw [if_neg c30] at hP
      have hO := hO.2 c30
      refine r_iload rfl ?_
      refine r_goto ?_
      refine r_iload rfl ?_
      have h36 := hO
      have k37 := fun (Q' : Option Int32 → mMH → Prop) hq => tX0_note (d := d + 1) (B := B) (v := mE v [(b, f_this), (b + 1, u17.2.1), (b + 3, u17.2.2), (g, f_dia), (g + 1, f_dia_meetings)]) (w := w) (Q := Q') hB.2.2.2.2.2.2.2.2.1 (f_this 0) x2 u29 x3 x4 f_dia f_dia_meetings h36 hq
      generalize hg_u35 : FX0_note (f_this 0) x2 u29 x3 x4 f_dia f_dia_meetings = u35 at k37 hP
      try dsimp only at hP
      refine r_callV (st := []) (o := g) (as := [.int (f_this 0), .int x2, .int u29, .int x3, .int x4]) (envc := [(g, f_dia), (g + 1, f_dia_meetings)]) (envc' := [(g, u35.2.1), (g + 1, u35.2.2)]) (env' := [(b, f_this), (b + 1, u17.2.1), (b + 3, u17.2.2), (g, u35.2.1), (g + 1, u35.2.2)]) (rv := none) [3, 4] (hn _ _ _ _ _) rfl rfl (Nat.le_of_ble_eq_true rfl) hB.2.2.2.2.2.2.2.2.1.1 rfl rfl rfl k37 ?_
      show RB _ _ _ _ _ [] _ _
      exact r_retv rfl (hPQ 0 u17.2.1 u17.2.2 u35.2.1 u35.2.2 hP)

def FX3_useLink (x1 : Int32) (x2 : Int32) (x3 : Int32) (x4 : Int32) (f_reg : mF) (f_memory : mF) (f_links_0 : mF) (f_links_1 : mF) : Int32 × mF × mF × mF × mF :=
  if x2 < 0 then ((0, f_reg, f_memory, f_links_0, f_links_1)) else (if x2 < 2 then (if x2 = 0 then (if x1 = 0 then (if (f_links_0 4) = (-1) then (if x1 = 0 then (let u8 := FX3_own f_reg; let u9 := FX2_beginReceiving u8 x3 x4 f_links_0; let u10 := FX3_goOff f_reg f_memory; (1, u10.2.1, u10.2.2, u9.2, f_links_1)) else (let u15 := FX3_own f_reg; let u16 := FX2_beginSending u15 x3 x4 f_links_0; let u17 := FX3_goOff f_reg f_memory; (1, u17.2.1, u17.2.2, u16.2, f_links_1))) else ((0, f_reg, f_memory, f_links_0, f_links_1))) else (if (f_links_0 0) = (-1) then (if x1 = 0 then (let u24 := FX3_own f_reg; let u25 := FX2_beginReceiving u24 x3 x4 f_links_0; let u26 := FX3_goOff f_reg f_memory; (1, u26.2.1, u26.2.2, u25.2, f_links_1)) else (let u31 := FX3_own f_reg; let u32 := FX2_beginSending u31 x3 x4 f_links_0; let u33 := FX3_goOff f_reg f_memory; (1, u33.2.1, u33.2.2, u32.2, f_links_1))) else ((0, f_reg, f_memory, f_links_0, f_links_1)))) else (if x1 = 0 then (if (f_links_1 4) = (-1) then (if x1 = 0 then (let u41 := FX3_own f_reg; let u42 := FX2_beginReceiving u41 x3 x4 f_links_1; let u43 := FX3_goOff f_reg f_memory; (1, u43.2.1, u43.2.2, f_links_0, u42.2)) else (let u48 := FX3_own f_reg; let u49 := FX2_beginSending u48 x3 x4 f_links_1; let u50 := FX3_goOff f_reg f_memory; (1, u50.2.1, u50.2.2, f_links_0, u49.2))) else ((0, f_reg, f_memory, f_links_0, f_links_1))) else (if (f_links_1 0) = (-1) then (if x1 = 0 then (let u57 := FX3_own f_reg; let u58 := FX2_beginReceiving u57 x3 x4 f_links_1; let u59 := FX3_goOff f_reg f_memory; (1, u59.2.1, u59.2.2, f_links_0, u58.2)) else (let u64 := FX3_own f_reg; let u65 := FX2_beginSending u64 x3 x4 f_links_1; let u66 := FX3_goOff f_reg f_memory; (1, u66.2.1, u66.2.2, f_links_0, u65.2))) else ((0, f_reg, f_memory, f_links_0, f_links_1))))) else ((0, f_reg, f_memory, f_links_0, f_links_1)))
def OX3_useLink (x1 : Int32) (x2 : Int32) (x3 : Int32) (x4 : Int32) (f_reg : mF) (f_memory : mF) (f_links_0 : mF) (f_links_1 : mF) : Prop :=
  (x2 < 0 → True) ∧ (¬ (x2 < 0) → ((x2 < 2 → (vp_in x2 2 ∧ (x2 = 0 → ((x1 = 0 → (((f_links_0 4) = (-1) → ((x1 = 0 → ((let u8 := FX3_own f_reg; (let u9 := FX2_beginReceiving u8 x3 x4 f_links_0; OX3_goOff f_reg f_memory)))) ∧ (¬ (x1 = 0) → ((let u15 := FX3_own f_reg; (let u16 := FX2_beginSending u15 x3 x4 f_links_0; OX3_goOff f_reg f_memory)))))) ∧ (¬ ((f_links_0 4) = (-1)) → True))) ∧ (¬ (x1 = 0) → (((f_links_0 0) = (-1) → ((x1 = 0 → ((let u24 := FX3_own f_reg; (let u25 := FX2_beginReceiving u24 x3 x4 f_links_0; OX3_goOff f_reg f_memory)))) ∧ (¬ (x1 = 0) → ((let u31 := FX3_own f_reg; (let u32 := FX2_beginSending u31 x3 x4 f_links_0; OX3_goOff f_reg f_memory)))))) ∧ (¬ ((f_links_0 0) = (-1)) → True))))) ∧ (¬ (x2 = 0) → ((x1 = 0 → (((f_links_1 4) = (-1) → ((x1 = 0 → ((let u41 := FX3_own f_reg; (let u42 := FX2_beginReceiving u41 x3 x4 f_links_1; OX3_goOff f_reg f_memory)))) ∧ (¬ (x1 = 0) → ((let u48 := FX3_own f_reg; (let u49 := FX2_beginSending u48 x3 x4 f_links_1; OX3_goOff f_reg f_memory)))))) ∧ (¬ ((f_links_1 4) = (-1)) → True))) ∧ (¬ (x1 = 0) → (((f_links_1 0) = (-1) → ((x1 = 0 → ((let u57 := FX3_own f_reg; (let u58 := FX2_beginReceiving u57 x3 x4 f_links_1; OX3_goOff f_reg f_memory)))) ∧ (¬ (x1 = 0) → ((let u64 := FX3_own f_reg; (let u65 := FX2_beginSending u64 x3 x4 f_links_1; OX3_goOff f_reg f_memory)))))) ∧ (¬ ((f_links_1 0) = (-1)) → True))))))) ∧ (¬ (x2 < 2) → True)))
set_option maxRecDepth 20000 in
theorem tX3_useLink {d : Nat} {B : mB} {v : mV} {w : mX} {Q : Option Int32 → mMH → Prop} {b g : Nat} (hB : isMach B b g) (hd : g + 2 ≤ b) (x1 : Int32) (x2 : Int32) (x3 : Int32) (x4 : Int32) (f_reg : mF) (f_memory : mF) (f_links_0 : mF) (f_links_1 : mF) (hO : OX3_useLink x1 x2 x3 x4 f_reg f_memory f_links_0 f_links_1) (hQ : Q (some ((FX3_useLink x1 x2 x3 x4 f_reg f_memory f_links_0 f_links_1).1)) (mH B (mE v [(b + 1, (FX3_useLink x1 x2 x3 x4 f_reg f_memory f_links_0 f_links_1).2.1), (b + 3, (FX3_useLink x1 x2 x3 x4 f_reg f_memory f_links_0 f_links_1).2.2.1), (b + 9, (FX3_useLink x1 x2 x3 x4 f_reg f_memory f_links_0 f_links_1).2.2.2.1), (b + 10, (FX3_useLink x1 x2 x3 x4 f_reg f_memory f_links_0 f_links_1).2.2.2.2)]) w)) : CQ (d + 2) 56 [.ref b, .int x1, .int x2, .int x3, .int x4] (mH B (mE v [(b + 1, f_reg), (b + 3, f_memory), (b + 9, f_links_0), (b + 10, f_links_1)]) w) Q := by
  have hn : ∀ (f_reg : mF) (f_memory : mF) (f_links_0 : mF) (f_links_1 : mF), mNd [(b + 1, f_reg), (b + 3, f_memory), (b + 9, f_links_0), (b + 10, f_links_1)] := fun _ _ _ _ => by
    show List.Nodup _
    simp only [List.map_cons, List.map_nil, List.nodup_cons, List.mem_cons, List.not_mem_nil, or_false, not_or, not_false_eq_true, List.nodup_nil, and_true]
    omega
  obtain ⟨P, hPQ, hP⟩ : ∃ P : Int32 × mF × mF × mF × mF → Prop, (∀ (q : Int32) (q0 : mF) (q1 : mF) (q2 : mF) (q3 : mF), P (q, q0, q1, q2, q3) → Q (some q) (mH B (mE v [(b + 1, q0), (b + 3, q1), (b + 9, q2), (b + 10, q3)]) w)) ∧ P (FX3_useLink x1 x2 x3 x4 f_reg f_memory f_links_0 f_links_1) := ⟨fun res => Q (some res.1) (mH B (mE v [(b + 1, res.2.1), (b + 3, res.2.2.1), (b + 9, res.2.2.2.1), (b + 10, res.2.2.2.2)]) w), fun _ _ _ _ _ h => h, hQ⟩
  refine r_begin mt_56 (by intro a ha; simp only [List.mem_cons, List.not_mem_nil, or_false] at ha; rcases ha with rfl | rfl | rfl | rfl | rfl <;> rfl) (Nat.le_of_ble_eq_true rfl) ?_
  rw [FX3_useLink] at hP
  rw [OX3_useLink] at hO
  show RB _ _ _ _ [some (.ref b), some (.int x1), some (.int x2), some (.int x3), some (.int x4), none] [] _ _
  refine r_iload rfl ?_
  refine r_if (fun c1 : x2 < 0 => ?_) (fun c1 : ¬ (x2 < 0) => ?_)
  · rw [if_pos c1] at hP
    have hO := hO.1 c1
    refine r_int ?_
    exact r_ret rfl rfl (hPQ 0 f_reg f_memory f_links_0 f_links_1 hP)
  · rw [if_neg c1] at hP
    have hO := hO.2 c1
    refine r_iload rfl ?_
    refine r_int ?_
    refine r_icmp (fun c2 : x2 < 2 => ?_) (fun c2 : ¬ (x2 < 2) => ?_)
    · rw [if_pos c2] at hP
      have hO := hO.1 c2
      refine r_aload rfl ?_
      refine r_getr (q := b + 8) hB.1 hB.2.2.2.2.2.2.2.2.2.2.2.2.2.2.1 ?_
      refine r_iload rfl ?_
      obtain ⟨h3, hO⟩ := hO
      by_cases c4 : x2 = 0
      · rw [if_pos c4] at hP
        have hO := hO.1 c4
        refine r_aldr (q := b + 9) hB.2.2.2.2.1 (Or.inl rfl) h3 (by rw [c4]; exact hB.2.2.2.2.2.2.2.2.2.2.2.2.2.2.2.1) ?_
        refine r_astore (L' := [some (.ref b), some (.int x1), some (.int x2), some (.int x3), some (.int x4), some (.ref (b + 9))]) rfl rfl ?_
        refine r_iload rfl ?_
        refine r_if (fun c5 : x1 = 0 => ?_) (fun c5 : ¬ (x1 = 0) => ?_)
        · rw [if_pos c5] at hP
          have hO := hO.1 c5
          refine r_aload rfl ?_
          refine r_get (x := f_links_0 4) 2 (hn _ _ _ _) rfl hB.2.2.2.2.2.2.1 (by decide) rfl ?_
          refine r_fall ?_
          refine r_int ?_
          refine r_icmp (fun c6 : (f_links_0 4) = (-1) => ?_) (fun c6 : ¬ ((f_links_0 4) = (-1)) => ?_)
          · rw [if_pos c6] at hP
            have hO := hO.1 c6
            refine r_iload rfl ?_
            refine r_if (fun c7 : x1 = 0 => ?_) (fun c7 : ¬ (x1 = 0) => ?_)
            · rw [if_pos c7] at hP
              have hO := hO.1 c7
              refine r_aload rfl ?_
              refine r_aload rfl ?_
              have k14 := fun (Q' : Option Int32 → mMH → Prop) hq => tX3_own (d := d + 0) (B := B) (v := mE v [(b + 1, f_reg), (b + 3, f_memory), (b + 9, f_links_0), (b + 10, f_links_1)]) (w := w) (Q := Q') hB (by omega) f_reg hq
              generalize hg_u8 : FX3_own f_reg = u8 at k14 hP hO
              try dsimp only at hP hO
              refine r_callV (st := [.ref (b + 9)]) (o := b) (as := []) (envc := [(b + 1, f_reg)]) (envc' := [(b + 1, f_reg)]) (env' := [(b + 1, f_reg), (b + 3, f_memory), (b + 9, f_links_0), (b + 10, f_links_1)]) (rv := some u8) [0] (hn _ _ _ _) rfl rfl (Nat.le_of_ble_eq_true rfl) hB.1 rfl rfl rfl k14 ?_
              show RB _ _ _ _ _ [.int u8, .ref (b + 9)] _ _
              refine r_iload rfl ?_
              refine r_iload rfl ?_
              have k13 := fun (Q' : Option Int32 → mMH → Prop) hq => tX2_beginReceiving (d := d + 0) (B := B) (v := mE v [(b + 1, f_reg), (b + 3, f_memory), (b + 9, f_links_0), (b + 10, f_links_1)]) (w := w) (Q := Q') hB.2.2.2.2.2.2.1 u8 x3 x4 f_links_0 hq
              generalize hg_u9 : FX2_beginReceiving u8 x3 x4 f_links_0 = u9 at k13 hP hO
              try dsimp only at hP hO
              refine r_callV (st := []) (o := b + 9) (as := [.int u8, .int x3, .int x4]) (envc := [(b + 9, f_links_0)]) (envc' := [(b + 9, u9.2)]) (env' := [(b + 1, f_reg), (b + 3, f_memory), (b + 9, u9.2), (b + 10, f_links_1)]) (rv := none) [2] (hn _ _ _ _) rfl rfl (Nat.le_of_ble_eq_true rfl) hB.2.2.2.2.2.2.1 rfl rfl rfl k13 ?_
              show RB _ _ _ _ _ [] _ _
              refine r_fall ?_
              refine r_aload rfl ?_
              have h11 := hO
              have k12 := fun (Q' : Option Int32 → mMH → Prop) hq => tX3_goOff (d := d + 0) (B := B) (v := mE v [(b + 1, f_reg), (b + 3, f_memory), (b + 9, u9.2), (b + 10, f_links_1)]) (w := w) (Q := Q') hB (by omega) f_reg f_memory h11 hq
              generalize hg_u10 : FX3_goOff f_reg f_memory = u10 at k12 hP
              try dsimp only at hP
              refine r_callV (st := []) (o := b) (as := []) (envc := [(b + 1, f_reg), (b + 3, f_memory)]) (envc' := [(b + 1, u10.2.1), (b + 3, u10.2.2)]) (env' := [(b + 1, u10.2.1), (b + 3, u10.2.2), (b + 9, u9.2), (b + 10, f_links_1)]) (rv := none) [0, 1] (hn _ _ _ _) rfl rfl (Nat.le_of_ble_eq_true rfl) hB.1 rfl rfl rfl k12 ?_
              show RB _ _ _ _ _ [] _ _
              refine r_int ?_
              exact r_ret rfl rfl (hPQ 1 u10.2.1 u10.2.2 u9.2 f_links_1 hP)
            · rw [if_neg c7] at hP
              have hO := hO.2 c7
              refine r_aload rfl ?_
              refine r_aload rfl ?_
              have k21 := fun (Q' : Option Int32 → mMH → Prop) hq => tX3_own (d := d + 0) (B := B) (v := mE v [(b + 1, f_reg), (b + 3, f_memory), (b + 9, f_links_0), (b + 10, f_links_1)]) (w := w) (Q := Q') hB (by omega) f_reg hq
              generalize hg_u15 : FX3_own f_reg = u15 at k21 hP hO
              try dsimp only at hP hO
              refine r_callV (st := [.ref (b + 9)]) (o := b) (as := []) (envc := [(b + 1, f_reg)]) (envc' := [(b + 1, f_reg)]) (env' := [(b + 1, f_reg), (b + 3, f_memory), (b + 9, f_links_0), (b + 10, f_links_1)]) (rv := some u15) [0] (hn _ _ _ _) rfl rfl (Nat.le_of_ble_eq_true rfl) hB.1 rfl rfl rfl k21 ?_
              show RB _ _ _ _ _ [.int u15, .ref (b + 9)] _ _
              refine r_iload rfl ?_
              refine r_iload rfl ?_
              have k20 := fun (Q' : Option Int32 → mMH → Prop) hq => tX2_beginSending (d := d + 0) (B := B) (v := mE v [(b + 1, f_reg), (b + 3, f_memory), (b + 9, f_links_0), (b + 10, f_links_1)]) (w := w) (Q := Q') hB.2.2.2.2.2.2.1 u15 x3 x4 f_links_0 hq
              generalize hg_u16 : FX2_beginSending u15 x3 x4 f_links_0 = u16 at k20 hP hO
              try dsimp only at hP hO
              refine r_callV (st := []) (o := b + 9) (as := [.int u15, .int x3, .int x4]) (envc := [(b + 9, f_links_0)]) (envc' := [(b + 9, u16.2)]) (env' := [(b + 1, f_reg), (b + 3, f_memory), (b + 9, u16.2), (b + 10, f_links_1)]) (rv := none) [2] (hn _ _ _ _) rfl rfl (Nat.le_of_ble_eq_true rfl) hB.2.2.2.2.2.2.1 rfl rfl rfl k20 ?_
              show RB _ _ _ _ _ [] _ _
              refine r_goto ?_
              refine r_aload rfl ?_
              have h18 := hO
              have k19 := fun (Q' : Option Int32 → mMH → Prop) hq => tX3_goOff (d := d + 0) (B := B) (v := mE v [(b + 1, f_reg), (b + 3, f_memory), (b + 9, u16.2), (b + 10, f_links_1)]) (w := w) (Q := Q') hB (by omega) f_reg f_memory h18 hq
              generalize hg_u17 : FX3_goOff f_reg f_memory = u17 at k19 hP
              try dsimp only at hP
              refine r_callV (st := []) (o := b) (as := []) (envc := [(b + 1, f_reg), (b + 3, f_memory)]) (envc' := [(b + 1, u17.2.1), (b + 3, u17.2.2)]) (env' := [(b + 1, u17.2.1), (b + 3, u17.2.2), (b + 9, u16.2), (b + 10, f_links_1)]) (rv := none) [0, 1] (hn _ _ _ _) rfl rfl (Nat.le_of_ble_eq_true rfl) hB.1 rfl rfl rfl k19 ?_
              show RB _ _ _ _ _ [] _ _
              refine r_int ?_
              exact r_ret rfl rfl (hPQ 1 u17.2.1 u17.2.2 u16.2 f_links_1 hP)
          · rw [if_neg c6] at hP
            have hO := hO.2 c6
            refine r_int ?_
            exact r_ret rfl rfl (hPQ 0 f_reg f_memory f_links_0 f_links_1 hP)
        · rw [if_neg c5] at hP
          have hO := hO.2 c5
          refine r_aload rfl ?_
          refine r_get (x := f_links_0 0) 2 (hn _ _ _ _) rfl hB.2.2.2.2.2.2.1 (by decide) rfl ?_
          refine r_goto ?_
          refine r_int ?_
          refine r_icmp (fun c22 : (f_links_0 0) = (-1) => ?_) (fun c22 : ¬ ((f_links_0 0) = (-1)) => ?_)
          · rw [if_pos c22] at hP
            have hO := hO.1 c22
            refine r_iload rfl ?_
            refine r_if (fun c23 : x1 = 0 => ?_) (fun c23 : ¬ (x1 = 0) => ?_)
            · rw [if_pos c23] at hP
              have hO := hO.1 c23
              refine r_aload rfl ?_
              refine r_aload rfl ?_
              have k30 := fun (Q' : Option Int32 → mMH → Prop) hq => tX3_own (d := d + 0) (B := B) (v := mE v [(b + 1, f_reg), (b + 3, f_memory), (b + 9, f_links_0), (b + 10, f_links_1)]) (w := w) (Q := Q') hB (by omega) f_reg hq
              generalize hg_u24 : FX3_own f_reg = u24 at k30 hP hO
              try dsimp only at hP hO
              refine r_callV (st := [.ref (b + 9)]) (o := b) (as := []) (envc := [(b + 1, f_reg)]) (envc' := [(b + 1, f_reg)]) (env' := [(b + 1, f_reg), (b + 3, f_memory), (b + 9, f_links_0), (b + 10, f_links_1)]) (rv := some u24) [0] (hn _ _ _ _) rfl rfl (Nat.le_of_ble_eq_true rfl) hB.1 rfl rfl rfl k30 ?_
              show RB _ _ _ _ _ [.int u24, .ref (b + 9)] _ _
              refine r_iload rfl ?_
              refine r_iload rfl ?_
              have k29 := fun (Q' : Option Int32 → mMH → Prop) hq => tX2_beginReceiving (d := d + 0) (B := B) (v := mE v [(b + 1, f_reg), (b + 3, f_memory), (b + 9, f_links_0), (b + 10, f_links_1)]) (w := w) (Q := Q') hB.2.2.2.2.2.2.1 u24 x3 x4 f_links_0 hq
              generalize hg_u25 : FX2_beginReceiving u24 x3 x4 f_links_0 = u25 at k29 hP hO
              try dsimp only at hP hO
              refine r_callV (st := []) (o := b + 9) (as := [.int u24, .int x3, .int x4]) (envc := [(b + 9, f_links_0)]) (envc' := [(b + 9, u25.2)]) (env' := [(b + 1, f_reg), (b + 3, f_memory), (b + 9, u25.2), (b + 10, f_links_1)]) (rv := none) [2] (hn _ _ _ _) rfl rfl (Nat.le_of_ble_eq_true rfl) hB.2.2.2.2.2.2.1 rfl rfl rfl k29 ?_
              show RB _ _ _ _ _ [] _ _
              refine r_fall ?_
              refine r_aload rfl ?_
              have h27 := hO
              have k28 := fun (Q' : Option Int32 → mMH → Prop) hq => tX3_goOff (d := d + 0) (B := B) (v := mE v [(b + 1, f_reg), (b + 3, f_memory), (b + 9, u25.2), (b + 10, f_links_1)]) (w := w) (Q := Q') hB (by omega) f_reg f_memory h27 hq
              generalize hg_u26 : FX3_goOff f_reg f_memory = u26 at k28 hP
              try dsimp only at hP
              refine r_callV (st := []) (o := b) (as := []) (envc := [(b + 1, f_reg), (b + 3, f_memory)]) (envc' := [(b + 1, u26.2.1), (b + 3, u26.2.2)]) (env' := [(b + 1, u26.2.1), (b + 3, u26.2.2), (b + 9, u25.2), (b + 10, f_links_1)]) (rv := none) [0, 1] (hn _ _ _ _) rfl rfl (Nat.le_of_ble_eq_true rfl) hB.1 rfl rfl rfl k28 ?_
              show RB _ _ _ _ _ [] _ _
              refine r_int ?_
              exact r_ret rfl rfl (hPQ 1 u26.2.1 u26.2.2 u25.2 f_links_1 hP)
            · rw [if_neg c23] at hP
              have hO := hO.2 c23
              refine r_aload rfl ?_
              refine r_aload rfl ?_
              have k37 := fun (Q' : Option Int32 → mMH → Prop) hq => tX3_own (d := d + 0) (B := B) (v := mE v [(b + 1, f_reg), (b + 3, f_memory), (b + 9, f_links_0), (b + 10, f_links_1)]) (w := w) (Q := Q') hB (by omega) f_reg hq
              generalize hg_u31 : FX3_own f_reg = u31 at k37 hP hO
              try dsimp only at hP hO
              refine r_callV (st := [.ref (b + 9)]) (o := b) (as := []) (envc := [(b + 1, f_reg)]) (envc' := [(b + 1, f_reg)]) (env' := [(b + 1, f_reg), (b + 3, f_memory), (b + 9, f_links_0), (b + 10, f_links_1)]) (rv := some u31) [0] (hn _ _ _ _) rfl rfl (Nat.le_of_ble_eq_true rfl) hB.1 rfl rfl rfl k37 ?_
              show RB _ _ _ _ _ [.int u31, .ref (b + 9)] _ _
              refine r_iload rfl ?_
              refine r_iload rfl ?_
              have k36 := fun (Q' : Option Int32 → mMH → Prop) hq => tX2_beginSending (d := d + 0) (B := B) (v := mE v [(b + 1, f_reg), (b + 3, f_memory), (b + 9, f_links_0), (b + 10, f_links_1)]) (w := w) (Q := Q') hB.2.2.2.2.2.2.1 u31 x3 x4 f_links_0 hq
              generalize hg_u32 : FX2_beginSending u31 x3 x4 f_links_0 = u32 at k36 hP hO
              try dsimp only at hP hO
              refine r_callV (st := []) (o := b + 9) (as := [.int u31, .int x3, .int x4]) (envc := [(b + 9, f_links_0)]) (envc' := [(b + 9, u32.2)]) (env' := [(b + 1, f_reg), (b + 3, f_memory), (b + 9, u32.2), (b + 10, f_links_1)]) (rv := none) [2] (hn _ _ _ _) rfl rfl (Nat.le_of_ble_eq_true rfl) hB.2.2.2.2.2.2.1 rfl rfl rfl k36 ?_
              show RB _ _ _ _ _ [] _ _
              refine r_goto ?_
              refine r_aload rfl ?_
              have h34 := hO
              have k35 := fun (Q' : Option Int32 → mMH → Prop) hq => tX3_goOff (d := d + 0) (B := B) (v := mE v [(b + 1, f_reg), (b + 3, f_memory), (b + 9, u32.2), (b + 10, f_links_1)]) (w := w) (Q := Q') hB (by omega) f_reg f_memory h34 hq
              generalize hg_u33 : FX3_goOff f_reg f_memory = u33 at k35 hP
              try dsimp only at hP
              refine r_callV (st := []) (o := b) (as := []) (envc := [(b + 1, f_reg), (b + 3, f_memory)]) (envc' := [(b + 1, u33.2.1), (b + 3, u33.2.2)]) (env' := [(b + 1, u33.2.1), (b + 3, u33.2.2), (b + 9, u32.2), (b + 10, f_links_1)]) (rv := none) [0, 1] (hn _ _ _ _) rfl rfl (Nat.le_of_ble_eq_true rfl) hB.1 rfl rfl rfl k35 ?_
              show RB _ _ _ _ _ [] _ _
              refine r_int ?_
              exact r_ret rfl rfl (hPQ 1 u33.2.1 u33.2.2 u32.2 f_links_1 hP)
          · rw [if_neg c22] at hP
            have hO := hO.2 c22
            refine r_int ?_
            exact r_ret rfl rfl (hPQ 0 f_reg f_memory f_links_0 f_links_1 hP)
      · rw [if_neg c4] at hP
        have hO := hO.2 c4
        refine r_aldr (q := b + 10) hB.2.2.2.2.1 (Or.inl rfl) h3 (by rw [vp2 h3 c4]; exact hB.2.2.2.2.2.2.2.2.2.2.2.2.2.2.2.2) ?_
        refine r_astore (L' := [some (.ref b), some (.int x1), some (.int x2), some (.int x3), some (.int x4), some (.ref (b + 10))]) rfl rfl ?_
        refine r_iload rfl ?_
        refine r_if (fun c38 : x1 = 0 => ?_) (fun c38 : ¬ (x1 = 0) => ?_)
        · rw [if_pos c38] at hP
          have hO := hO.1 c38
          refine r_aload rfl ?_
          refine r_get (x := f_links_1 4) 3 (hn _ _ _ _) rfl hB.2.2.2.2.2.2.2.1 (by decide) rfl ?_
          refine r_fall ?_
          refine r_int ?_
          refine r_icmp (fun c39 : (f_links_1 4) = (-1) => ?_) (fun c39 : ¬ ((f_links_1 4) = (-1)) => ?_)
          · rw [if_pos c39] at hP
            have hO := hO.1 c39
            refine r_iload rfl ?_
            refine r_if (fun c40 : x1 = 0 => ?_) (fun c40 : ¬ (x1 = 0) => ?_)
            · rw [if_pos c40] at hP
              have hO := hO.1 c40
              refine r_aload rfl ?_
              refine r_aload rfl ?_
              have k47 := fun (Q' : Option Int32 → mMH → Prop) hq => tX3_own (d := d + 0) (B := B) (v := mE v [(b + 1, f_reg), (b + 3, f_memory), (b + 9, f_links_0), (b + 10, f_links_1)]) (w := w) (Q := Q') hB (by omega) f_reg hq
              generalize hg_u41 : FX3_own f_reg = u41 at k47 hP hO
              try dsimp only at hP hO
              refine r_callV (st := [.ref (b + 10)]) (o := b) (as := []) (envc := [(b + 1, f_reg)]) (envc' := [(b + 1, f_reg)]) (env' := [(b + 1, f_reg), (b + 3, f_memory), (b + 9, f_links_0), (b + 10, f_links_1)]) (rv := some u41) [0] (hn _ _ _ _) rfl rfl (Nat.le_of_ble_eq_true rfl) hB.1 rfl rfl rfl k47 ?_
              show RB _ _ _ _ _ [.int u41, .ref (b + 10)] _ _
              refine r_iload rfl ?_
              refine r_iload rfl ?_
              have k46 := fun (Q' : Option Int32 → mMH → Prop) hq => tX2_beginReceiving (d := d + 0) (B := B) (v := mE v [(b + 1, f_reg), (b + 3, f_memory), (b + 9, f_links_0), (b + 10, f_links_1)]) (w := w) (Q := Q') hB.2.2.2.2.2.2.2.1 u41 x3 x4 f_links_1 hq
              generalize hg_u42 : FX2_beginReceiving u41 x3 x4 f_links_1 = u42 at k46 hP hO
              try dsimp only at hP hO
              refine r_callV (st := []) (o := b + 10) (as := [.int u41, .int x3, .int x4]) (envc := [(b + 10, f_links_1)]) (envc' := [(b + 10, u42.2)]) (env' := [(b + 1, f_reg), (b + 3, f_memory), (b + 9, f_links_0), (b + 10, u42.2)]) (rv := none) [3] (hn _ _ _ _) rfl rfl (Nat.le_of_ble_eq_true rfl) hB.2.2.2.2.2.2.2.1 rfl rfl rfl k46 ?_
              show RB _ _ _ _ _ [] _ _
              refine r_fall ?_
              refine r_aload rfl ?_
              have h44 := hO
              have k45 := fun (Q' : Option Int32 → mMH → Prop) hq => tX3_goOff (d := d + 0) (B := B) (v := mE v [(b + 1, f_reg), (b + 3, f_memory), (b + 9, f_links_0), (b + 10, u42.2)]) (w := w) (Q := Q') hB (by omega) f_reg f_memory h44 hq
              generalize hg_u43 : FX3_goOff f_reg f_memory = u43 at k45 hP
              try dsimp only at hP
              refine r_callV (st := []) (o := b) (as := []) (envc := [(b + 1, f_reg), (b + 3, f_memory)]) (envc' := [(b + 1, u43.2.1), (b + 3, u43.2.2)]) (env' := [(b + 1, u43.2.1), (b + 3, u43.2.2), (b + 9, f_links_0), (b + 10, u42.2)]) (rv := none) [0, 1] (hn _ _ _ _) rfl rfl (Nat.le_of_ble_eq_true rfl) hB.1 rfl rfl rfl k45 ?_
              show RB _ _ _ _ _ [] _ _
              refine r_int ?_
              exact r_ret rfl rfl (hPQ 1 u43.2.1 u43.2.2 f_links_0 u42.2 hP)
            · rw [if_neg c40] at hP
              have hO := hO.2 c40
              refine r_aload rfl ?_
              refine r_aload rfl ?_
              have k54 := fun (Q' : Option Int32 → mMH → Prop) hq => tX3_own (d := d + 0) (B := B) (v := mE v [(b + 1, f_reg), (b + 3, f_memory), (b + 9, f_links_0), (b + 10, f_links_1)]) (w := w) (Q := Q') hB (by omega) f_reg hq
              generalize hg_u48 : FX3_own f_reg = u48 at k54 hP hO
              try dsimp only at hP hO
              refine r_callV (st := [.ref (b + 10)]) (o := b) (as := []) (envc := [(b + 1, f_reg)]) (envc' := [(b + 1, f_reg)]) (env' := [(b + 1, f_reg), (b + 3, f_memory), (b + 9, f_links_0), (b + 10, f_links_1)]) (rv := some u48) [0] (hn _ _ _ _) rfl rfl (Nat.le_of_ble_eq_true rfl) hB.1 rfl rfl rfl k54 ?_
              show RB _ _ _ _ _ [.int u48, .ref (b + 10)] _ _
              refine r_iload rfl ?_
              refine r_iload rfl ?_
              have k53 := fun (Q' : Option Int32 → mMH → Prop) hq => tX2_beginSending (d := d + 0) (B := B) (v := mE v [(b + 1, f_reg), (b + 3, f_memory), (b + 9, f_links_0), (b + 10, f_links_1)]) (w := w) (Q := Q') hB.2.2.2.2.2.2.2.1 u48 x3 x4 f_links_1 hq
              generalize hg_u49 : FX2_beginSending u48 x3 x4 f_links_1 = u49 at k53 hP hO
              try dsimp only at hP hO
              refine r_callV (st := []) (o := b + 10) (as := [.int u48, .int x3, .int x4]) (envc := [(b + 10, f_links_1)]) (envc' := [(b + 10, u49.2)]) (env' := [(b + 1, f_reg), (b + 3, f_memory), (b + 9, f_links_0), (b + 10, u49.2)]) (rv := none) [3] (hn _ _ _ _) rfl rfl (Nat.le_of_ble_eq_true rfl) hB.2.2.2.2.2.2.2.1 rfl rfl rfl k53 ?_
              show RB _ _ _ _ _ [] _ _
              refine r_goto ?_
              refine r_aload rfl ?_
              have h51 := hO
              have k52 := fun (Q' : Option Int32 → mMH → Prop) hq => tX3_goOff (d := d + 0) (B := B) (v := mE v [(b + 1, f_reg), (b + 3, f_memory), (b + 9, f_links_0), (b + 10, u49.2)]) (w := w) (Q := Q') hB (by omega) f_reg f_memory h51 hq
              generalize hg_u50 : FX3_goOff f_reg f_memory = u50 at k52 hP
              try dsimp only at hP
              refine r_callV (st := []) (o := b) (as := []) (envc := [(b + 1, f_reg), (b + 3, f_memory)]) (envc' := [(b + 1, u50.2.1), (b + 3, u50.2.2)]) (env' := [(b + 1, u50.2.1), (b + 3, u50.2.2), (b + 9, f_links_0), (b + 10, u49.2)]) (rv := none) [0, 1] (hn _ _ _ _) rfl rfl (Nat.le_of_ble_eq_true rfl) hB.1 rfl rfl rfl k52 ?_
              show RB _ _ _ _ _ [] _ _
              refine r_int ?_
              exact r_ret rfl rfl (hPQ 1 u50.2.1 u50.2.2 f_links_0 u49.2 hP)
          · rw [if_neg c39] at hP
            have hO := hO.2 c39
            refine r_int ?_
            exact r_ret rfl rfl (hPQ 0 f_reg f_memory f_links_0 f_links_1 hP)
        · rw [if_neg c38] at hP
          have hO := hO.2 c38
          refine r_aload rfl ?_
          refine r_get (x := f_links_1 0) 3 (hn _ _ _ _) rfl hB.2.2.2.2.2.2.2.1 (by decide) rfl ?_
          refine r_goto ?_
          refine r_int ?_
          refine r_icmp (fun c55 : (f_links_1 0) = (-1) => ?_) (fun c55 : ¬ ((f_links_1 0) = (-1)) => ?_)
          · rw [if_pos c55] at hP
            have hO := hO.1 c55
            refine r_iload rfl ?_
            refine r_if (fun c56 : x1 = 0 => ?_) (fun c56 : ¬ (x1 = 0) => ?_)
            · rw [if_pos c56] at hP
              have hO := hO.1 c56
              refine r_aload rfl ?_
              refine r_aload rfl ?_
              have k63 := fun (Q' : Option Int32 → mMH → Prop) hq => tX3_own (d := d + 0) (B := B) (v := mE v [(b + 1, f_reg), (b + 3, f_memory), (b + 9, f_links_0), (b + 10, f_links_1)]) (w := w) (Q := Q') hB (by omega) f_reg hq
              generalize hg_u57 : FX3_own f_reg = u57 at k63 hP hO
              try dsimp only at hP hO
              refine r_callV (st := [.ref (b + 10)]) (o := b) (as := []) (envc := [(b + 1, f_reg)]) (envc' := [(b + 1, f_reg)]) (env' := [(b + 1, f_reg), (b + 3, f_memory), (b + 9, f_links_0), (b + 10, f_links_1)]) (rv := some u57) [0] (hn _ _ _ _) rfl rfl (Nat.le_of_ble_eq_true rfl) hB.1 rfl rfl rfl k63 ?_
              show RB _ _ _ _ _ [.int u57, .ref (b + 10)] _ _
              refine r_iload rfl ?_
              refine r_iload rfl ?_
              have k62 := fun (Q' : Option Int32 → mMH → Prop) hq => tX2_beginReceiving (d := d + 0) (B := B) (v := mE v [(b + 1, f_reg), (b + 3, f_memory), (b + 9, f_links_0), (b + 10, f_links_1)]) (w := w) (Q := Q') hB.2.2.2.2.2.2.2.1 u57 x3 x4 f_links_1 hq
              generalize hg_u58 : FX2_beginReceiving u57 x3 x4 f_links_1 = u58 at k62 hP hO
              try dsimp only at hP hO
              refine r_callV (st := []) (o := b + 10) (as := [.int u57, .int x3, .int x4]) (envc := [(b + 10, f_links_1)]) (envc' := [(b + 10, u58.2)]) (env' := [(b + 1, f_reg), (b + 3, f_memory), (b + 9, f_links_0), (b + 10, u58.2)]) (rv := none) [3] (hn _ _ _ _) rfl rfl (Nat.le_of_ble_eq_true rfl) hB.2.2.2.2.2.2.2.1 rfl rfl rfl k62 ?_
              show RB _ _ _ _ _ [] _ _
              refine r_fall ?_
              refine r_aload rfl ?_
              have h60 := hO
              have k61 := fun (Q' : Option Int32 → mMH → Prop) hq => tX3_goOff (d := d + 0) (B := B) (v := mE v [(b + 1, f_reg), (b + 3, f_memory), (b + 9, f_links_0), (b + 10, u58.2)]) (w := w) (Q := Q') hB (by omega) f_reg f_memory h60 hq
              generalize hg_u59 : FX3_goOff f_reg f_memory = u59 at k61 hP
              try dsimp only at hP
              refine r_callV (st := []) (o := b) (as := []) (envc := [(b + 1, f_reg), (b + 3, f_memory)]) (envc' := [(b + 1, u59.2.1), (b + 3, u59.2.2)]) (env' := [(b + 1, u59.2.1), (b + 3, u59.2.2), (b + 9, f_links_0), (b + 10, u58.2)]) (rv := none) [0, 1] (hn _ _ _ _) rfl rfl (Nat.le_of_ble_eq_true rfl) hB.1 rfl rfl rfl k61 ?_
              show RB _ _ _ _ _ [] _ _
              refine r_int ?_
              exact r_ret rfl rfl (hPQ 1 u59.2.1 u59.2.2 f_links_0 u58.2 hP)
            · rw [if_neg c56] at hP
              have hO := hO.2 c56
              refine r_aload rfl ?_
              refine r_aload rfl ?_
              have k70 := fun (Q' : Option Int32 → mMH → Prop) hq => tX3_own (d := d + 0) (B := B) (v := mE v [(b + 1, f_reg), (b + 3, f_memory), (b + 9, f_links_0), (b + 10, f_links_1)]) (w := w) (Q := Q') hB (by omega) f_reg hq
              generalize hg_u64 : FX3_own f_reg = u64 at k70 hP hO
              try dsimp only at hP hO
              refine r_callV (st := [.ref (b + 10)]) (o := b) (as := []) (envc := [(b + 1, f_reg)]) (envc' := [(b + 1, f_reg)]) (env' := [(b + 1, f_reg), (b + 3, f_memory), (b + 9, f_links_0), (b + 10, f_links_1)]) (rv := some u64) [0] (hn _ _ _ _) rfl rfl (Nat.le_of_ble_eq_true rfl) hB.1 rfl rfl rfl k70 ?_
              show RB _ _ _ _ _ [.int u64, .ref (b + 10)] _ _
              refine r_iload rfl ?_
              refine r_iload rfl ?_
              have k69 := fun (Q' : Option Int32 → mMH → Prop) hq => tX2_beginSending (d := d + 0) (B := B) (v := mE v [(b + 1, f_reg), (b + 3, f_memory), (b + 9, f_links_0), (b + 10, f_links_1)]) (w := w) (Q := Q') hB.2.2.2.2.2.2.2.1 u64 x3 x4 f_links_1 hq
              generalize hg_u65 : FX2_beginSending u64 x3 x4 f_links_1 = u65 at k69 hP hO
              try dsimp only at hP hO
              refine r_callV (st := []) (o := b + 10) (as := [.int u64, .int x3, .int x4]) (envc := [(b + 10, f_links_1)]) (envc' := [(b + 10, u65.2)]) (env' := [(b + 1, f_reg), (b + 3, f_memory), (b + 9, f_links_0), (b + 10, u65.2)]) (rv := none) [3] (hn _ _ _ _) rfl rfl (Nat.le_of_ble_eq_true rfl) hB.2.2.2.2.2.2.2.1 rfl rfl rfl k69 ?_
              show RB _ _ _ _ _ [] _ _
              refine r_goto ?_
              refine r_aload rfl ?_
              have h67 := hO
              have k68 := fun (Q' : Option Int32 → mMH → Prop) hq => tX3_goOff (d := d + 0) (B := B) (v := mE v [(b + 1, f_reg), (b + 3, f_memory), (b + 9, f_links_0), (b + 10, u65.2)]) (w := w) (Q := Q') hB (by omega) f_reg f_memory h67 hq
              generalize hg_u66 : FX3_goOff f_reg f_memory = u66 at k68 hP
              try dsimp only at hP
              refine r_callV (st := []) (o := b) (as := []) (envc := [(b + 1, f_reg), (b + 3, f_memory)]) (envc' := [(b + 1, u66.2.1), (b + 3, u66.2.2)]) (env' := [(b + 1, u66.2.1), (b + 3, u66.2.2), (b + 9, f_links_0), (b + 10, u65.2)]) (rv := none) [0, 1] (hn _ _ _ _) rfl rfl (Nat.le_of_ble_eq_true rfl) hB.1 rfl rfl rfl k68 ?_
              show RB _ _ _ _ _ [] _ _
              refine r_int ?_
              exact r_ret rfl rfl (hPQ 1 u66.2.1 u66.2.2 f_links_0 u65.2 hP)
          · rw [if_neg c55] at hP
            have hO := hO.2 c55
            refine r_int ?_
            exact r_ret rfl rfl (hPQ 0 f_reg f_memory f_links_0 f_links_1 hP)
    · rw [if_neg c2] at hP
      have hO := hO.2 c2
      refine r_fall ?_
      refine r_int ?_
      exact r_ret rfl rfl (hPQ 0 f_reg f_memory f_links_0 f_links_1 hP)

def FX3_communicate (x1 : Int32) (f_this : mF) (f_reg : mF) (f_memory : mF) (f_timers : mF) (f_timers_process : mF) (f_timers_time : mF) (f_timers_isBy : mF) (f_links_0 : mF) (f_links_1 : mF) (f_dia : mF) (f_dia_meetings : mF) : Int32 × mF × mF × mF × mF × mF × mF × mF × mF × mF × mF :=
  let u1 := FX3_clear f_reg; if (f_reg 0) < 1 then ((0, u1.2, f_memory, f_timers, f_timers_process, f_timers_time, f_timers_isBy, f_links_0, f_links_1, f_dia, f_dia_meetings)) else (if 8 < (f_reg 0) then ((0, u1.2, f_memory, f_timers, f_timers_process, f_timers_time, f_timers_isBy, f_links_0, f_links_1, f_dia, f_dia_meetings)) else (let u4 := FX9_isPlace (f_reg 1); if u4 = 0 then ((0, u1.2, f_memory, f_timers, f_timers_process, f_timers_time, f_timers_isBy, f_links_0, f_links_1, f_dia, f_dia_meetings)) else (let u6 := FX9_arePlaces (f_reg 2) (f_reg 0); if u6 = 0 then ((0, u1.2, f_memory, f_timers, f_timers_process, f_timers_time, f_timers_isBy, f_links_0, f_links_1, f_dia, f_dia_meetings)) else (if 4 ≤ (f_reg 1) then (if (f_memory ((f_reg 1 : Int32).toNatClampNeg)) = (-1) then (let u11 := FX3_waitAt (f_reg 1) (f_reg 2) u1.2 f_memory; (1, u11.2.1, u11.2.2, f_timers, f_timers_process, f_timers_time, f_timers_isBy, f_links_0, f_links_1, f_dia, f_dia_meetings)) else (let u14 := FX9_isProcess (f_memory ((f_reg 1 : Int32).toNatClampNeg)); if u14 = 0 then ((0, u1.2, f_memory, f_timers, f_timers_process, f_timers_time, f_timers_isBy, f_links_0, f_links_1, f_dia, f_dia_meetings)) else (if x1 = 0 then (let u18 := FX9_arePlaces (f_memory ((((f_memory ((f_reg 1 : Int32).toNatClampNeg)) / 2) - 3 : Int32).toNatClampNeg)) (f_reg 0); if u18 = 0 then ((0, u1.2, f_memory, f_timers, f_timers_process, f_timers_time, f_timers_isBy, f_links_0, f_links_1, f_dia, f_dia_meetings)) else (let u20 := FX3_meet x1 (f_reg 1) (f_memory ((f_reg 1 : Int32).toNatClampNeg)) (f_reg 0) (f_reg 2) f_this u1.2 f_memory f_dia f_dia_meetings; (1, u20.2.1, u20.2.2.1, f_timers, f_timers_process, f_timers_time, f_timers_isBy, f_links_0, f_links_1, u20.2.2.2.1, u20.2.2.2.2))) else (if (f_memory ((((f_memory ((f_reg 1 : Int32).toNatClampNeg)) / 2) - 3 : Int32).toNatClampNeg)) = (-2) then (let u25 := FX3_alert (f_memory ((f_reg 1 : Int32).toNatClampNeg)) u1.2 f_memory f_timers f_timers_process f_timers_time f_timers_isBy; let u27 := FX3_waitAt (f_reg 1) (f_reg 2) u25.2.1 u25.2.2.1; (1, u27.2.1, u27.2.2, u25.2.2.2.1, u25.2.2.2.2.1, u25.2.2.2.2.2.1, u25.2.2.2.2.2.2, f_links_0, f_links_1, f_dia, f_dia_meetings)) else (if (f_memory ((((f_memory ((f_reg 1 : Int32).toNatClampNeg)) / 2) - 3 : Int32).toNatClampNeg)) = (-3) then (let u32 := FX3_alert (f_memory ((f_reg 1 : Int32).toNatClampNeg)) u1.2 f_memory f_timers f_timers_process f_timers_time f_timers_isBy; let u34 := FX3_waitAt (f_reg 1) (f_reg 2) u32.2.1 u32.2.2.1; (1, u34.2.1, u34.2.2, u32.2.2.2.1, u32.2.2.2.2.1, u32.2.2.2.2.2.1, u32.2.2.2.2.2.2, f_links_0, f_links_1, f_dia, f_dia_meetings)) else (if (f_memory ((((f_memory ((f_reg 1 : Int32).toNatClampNeg)) / 2) - 3 : Int32).toNatClampNeg)) = (-4) then (let u39 := FX3_alert (f_memory ((f_reg 1 : Int32).toNatClampNeg)) u1.2 f_memory f_timers f_timers_process f_timers_time f_timers_isBy; let u41 := FX3_waitAt (f_reg 1) (f_reg 2) u39.2.1 u39.2.2.1; (1, u41.2.1, u41.2.2, u39.2.2.2.1, u39.2.2.2.2.1, u39.2.2.2.2.2.1, u39.2.2.2.2.2.2, f_links_0, f_links_1, f_dia, f_dia_meetings)) else (let u45 := FX9_arePlaces (f_memory ((((f_memory ((f_reg 1 : Int32).toNatClampNeg)) / 2) - 3 : Int32).toNatClampNeg)) (f_reg 0); if u45 = 0 then ((0, u1.2, f_memory, f_timers, f_timers_process, f_timers_time, f_timers_isBy, f_links_0, f_links_1, f_dia, f_dia_meetings)) else (let u47 := FX3_meet x1 (f_reg 1) (f_memory ((f_reg 1 : Int32).toNatClampNeg)) (f_reg 0) (f_reg 2) f_this u1.2 f_memory f_dia f_dia_meetings; (1, u47.2.1, u47.2.2.1, f_timers, f_timers_process, f_timers_time, f_timers_isBy, f_links_0, f_links_1, u47.2.2.2.1, u47.2.2.2.2))))))))) else (if x1 = 0 then (let u53 := FX3_useLink x1 ((f_reg 1) - 2) (f_reg 2) (f_reg 0) u1.2 f_memory f_links_0 f_links_1; (u53.1, u53.2.1, u53.2.2.1, f_timers, f_timers_process, f_timers_time, f_timers_isBy, u53.2.2.2.1, u53.2.2.2.2, f_dia, f_dia_meetings)) else (let u56 := FX3_useLink x1 (f_reg 1) (f_reg 2) (f_reg 0) u1.2 f_memory f_links_0 f_links_1; (u56.1, u56.2.1, u56.2.2.1, f_timers, f_timers_process, f_timers_time, f_timers_isBy, u56.2.2.2.1, u56.2.2.2.2, f_dia, f_dia_meetings)))))))
def OX3_communicate (x1 : Int32) (f_this : mF) (f_reg : mF) (f_memory : mF) (f_timers : mF) (f_timers_process : mF) (f_timers_time : mF) (f_timers_isBy : mF) (f_links_0 : mF) (f_links_1 : mF) (f_dia : mF) (f_dia_meetings : mF) : Prop :=
  (let u1 := FX3_clear f_reg; ((f_reg 0) < 1 → True) ∧ (¬ ((f_reg 0) < 1) → ((8 < (f_reg 0) → True) ∧ (¬ (8 < (f_reg 0)) → ((let u4 := FX9_isPlace (f_reg 1); (u4 = 0 → True) ∧ (¬ (u4 = 0) → ((let u6 := FX9_arePlaces (f_reg 2) (f_reg 0); (u6 = 0 → True) ∧ (¬ (u6 = 0) → ((4 ≤ (f_reg 1) → (vp_in (f_reg 1) 96 ∧ (((f_memory ((f_reg 1 : Int32).toNatClampNeg)) = (-1) → (OX3_waitAt (f_reg 1) (f_reg 2) u1.2 f_memory)) ∧ (¬ ((f_memory ((f_reg 1 : Int32).toNatClampNeg)) = (-1)) → ((let u14 := FX9_isProcess (f_memory ((f_reg 1 : Int32).toNatClampNeg)); (u14 = 0 → True) ∧ (¬ (u14 = 0) → (vp_in (((f_memory ((f_reg 1 : Int32).toNatClampNeg)) / 2) - 3) 96 ∧ ((x1 = 0 → ((let u18 := FX9_arePlaces (f_memory ((((f_memory ((f_reg 1 : Int32).toNatClampNeg)) / 2) - 3 : Int32).toNatClampNeg)) (f_reg 0); (u18 = 0 → True) ∧ (¬ (u18 = 0) → (OX3_meet x1 (f_reg 1) (f_memory ((f_reg 1 : Int32).toNatClampNeg)) (f_reg 0) (f_reg 2) f_this u1.2 f_memory f_dia f_dia_meetings))))) ∧ (¬ (x1 = 0) → (((f_memory ((((f_memory ((f_reg 1 : Int32).toNatClampNeg)) / 2) - 3 : Int32).toNatClampNeg)) = (-2) → (OX3_alert (f_memory ((f_reg 1 : Int32).toNatClampNeg)) u1.2 f_memory f_timers f_timers_process f_timers_time f_timers_isBy ∧ (let u25 := FX3_alert (f_memory ((f_reg 1 : Int32).toNatClampNeg)) u1.2 f_memory f_timers f_timers_process f_timers_time f_timers_isBy; OX3_waitAt (f_reg 1) (f_reg 2) u25.2.1 u25.2.2.1))) ∧ (¬ ((f_memory ((((f_memory ((f_reg 1 : Int32).toNatClampNeg)) / 2) - 3 : Int32).toNatClampNeg)) = (-2)) → (((f_memory ((((f_memory ((f_reg 1 : Int32).toNatClampNeg)) / 2) - 3 : Int32).toNatClampNeg)) = (-3) → (OX3_alert (f_memory ((f_reg 1 : Int32).toNatClampNeg)) u1.2 f_memory f_timers f_timers_process f_timers_time f_timers_isBy ∧ (let u32 := FX3_alert (f_memory ((f_reg 1 : Int32).toNatClampNeg)) u1.2 f_memory f_timers f_timers_process f_timers_time f_timers_isBy; OX3_waitAt (f_reg 1) (f_reg 2) u32.2.1 u32.2.2.1))) ∧ (¬ ((f_memory ((((f_memory ((f_reg 1 : Int32).toNatClampNeg)) / 2) - 3 : Int32).toNatClampNeg)) = (-3)) → (((f_memory ((((f_memory ((f_reg 1 : Int32).toNatClampNeg)) / 2) - 3 : Int32).toNatClampNeg)) = (-4) → (OX3_alert (f_memory ((f_reg 1 : Int32).toNatClampNeg)) u1.2 f_memory f_timers f_timers_process f_timers_time f_timers_isBy ∧ (let u39 := FX3_alert (f_memory ((f_reg 1 : Int32).toNatClampNeg)) u1.2 f_memory f_timers f_timers_process f_timers_time f_timers_isBy; OX3_waitAt (f_reg 1) (f_reg 2) u39.2.1 u39.2.2.1))) ∧ (¬ ((f_memory ((((f_memory ((f_reg 1 : Int32).toNatClampNeg)) / 2) - 3 : Int32).toNatClampNeg)) = (-4)) → ((let u45 := FX9_arePlaces (f_memory ((((f_memory ((f_reg 1 : Int32).toNatClampNeg)) / 2) - 3 : Int32).toNatClampNeg)) (f_reg 0); (u45 = 0 → True) ∧ (¬ (u45 = 0) → (OX3_meet x1 (f_reg 1) (f_memory ((f_reg 1 : Int32).toNatClampNeg)) (f_reg 0) (f_reg 2) f_this u1.2 f_memory f_dia f_dia_meetings)))))))))))))))))))) ∧ (¬ (4 ≤ (f_reg 1)) → ((x1 = 0 → (OX3_useLink x1 ((f_reg 1) - 2) (f_reg 2) (f_reg 0) u1.2 f_memory f_links_0 f_links_1 ∧ (let u53 := FX3_useLink x1 ((f_reg 1) - 2) (f_reg 2) (f_reg 0) u1.2 f_memory f_links_0 f_links_1; u53.1 = 0 ∨ u53.1 = 1))) ∧ (¬ (x1 = 0) → (OX3_useLink x1 (f_reg 1) (f_reg 2) (f_reg 0) u1.2 f_memory f_links_0 f_links_1 ∧ (let u56 := FX3_useLink x1 (f_reg 1) (f_reg 2) (f_reg 0) u1.2 f_memory f_links_0 f_links_1; u56.1 = 0 ∨ u56.1 = 1))))))))))))))))
set_option maxRecDepth 20000 in
theorem tX3_communicate {d : Nat} {B : mB} {v : mV} {w : mX} {Q : Option Int32 → mMH → Prop} {b g : Nat} (hB : isMach B b g) (hd : g + 2 ≤ b) (x1 : Int32) (f_this : mF) (f_reg : mF) (f_memory : mF) (f_timers : mF) (f_timers_process : mF) (f_timers_time : mF) (f_timers_isBy : mF) (f_links_0 : mF) (f_links_1 : mF) (f_dia : mF) (f_dia_meetings : mF) (hO : OX3_communicate x1 f_this f_reg f_memory f_timers f_timers_process f_timers_time f_timers_isBy f_links_0 f_links_1 f_dia f_dia_meetings) (hQ : Q (some ((FX3_communicate x1 f_this f_reg f_memory f_timers f_timers_process f_timers_time f_timers_isBy f_links_0 f_links_1 f_dia f_dia_meetings).1)) (mH B (mE v [(b, f_this), (b + 1, (FX3_communicate x1 f_this f_reg f_memory f_timers f_timers_process f_timers_time f_timers_isBy f_links_0 f_links_1 f_dia f_dia_meetings).2.1), (b + 3, (FX3_communicate x1 f_this f_reg f_memory f_timers f_timers_process f_timers_time f_timers_isBy f_links_0 f_links_1 f_dia f_dia_meetings).2.2.1), (b + 4, (FX3_communicate x1 f_this f_reg f_memory f_timers f_timers_process f_timers_time f_timers_isBy f_links_0 f_links_1 f_dia f_dia_meetings).2.2.2.1), (b + 4 + 1, (FX3_communicate x1 f_this f_reg f_memory f_timers f_timers_process f_timers_time f_timers_isBy f_links_0 f_links_1 f_dia f_dia_meetings).2.2.2.2.1), (b + 4 + 2, (FX3_communicate x1 f_this f_reg f_memory f_timers f_timers_process f_timers_time f_timers_isBy f_links_0 f_links_1 f_dia f_dia_meetings).2.2.2.2.2.1), (b + 4 + 3, (FX3_communicate x1 f_this f_reg f_memory f_timers f_timers_process f_timers_time f_timers_isBy f_links_0 f_links_1 f_dia f_dia_meetings).2.2.2.2.2.2.1), (b + 9, (FX3_communicate x1 f_this f_reg f_memory f_timers f_timers_process f_timers_time f_timers_isBy f_links_0 f_links_1 f_dia f_dia_meetings).2.2.2.2.2.2.2.1), (b + 10, (FX3_communicate x1 f_this f_reg f_memory f_timers f_timers_process f_timers_time f_timers_isBy f_links_0 f_links_1 f_dia f_dia_meetings).2.2.2.2.2.2.2.2.1), (g, (FX3_communicate x1 f_this f_reg f_memory f_timers f_timers_process f_timers_time f_timers_isBy f_links_0 f_links_1 f_dia f_dia_meetings).2.2.2.2.2.2.2.2.2.1), (g + 1, (FX3_communicate x1 f_this f_reg f_memory f_timers f_timers_process f_timers_time f_timers_isBy f_links_0 f_links_1 f_dia f_dia_meetings).2.2.2.2.2.2.2.2.2.2)]) w)) : CQ (d + 4) 52 [.ref b, .int x1] (mH B (mE v [(b, f_this), (b + 1, f_reg), (b + 3, f_memory), (b + 4, f_timers), (b + 4 + 1, f_timers_process), (b + 4 + 2, f_timers_time), (b + 4 + 3, f_timers_isBy), (b + 9, f_links_0), (b + 10, f_links_1), (g, f_dia), (g + 1, f_dia_meetings)]) w) Q := by
  have hn : ∀ (f_this : mF) (f_reg : mF) (f_memory : mF) (f_timers : mF) (f_timers_process : mF) (f_timers_time : mF) (f_timers_isBy : mF) (f_links_0 : mF) (f_links_1 : mF) (f_dia : mF) (f_dia_meetings : mF), mNd [(b, f_this), (b + 1, f_reg), (b + 3, f_memory), (b + 4, f_timers), (b + 4 + 1, f_timers_process), (b + 4 + 2, f_timers_time), (b + 4 + 3, f_timers_isBy), (b + 9, f_links_0), (b + 10, f_links_1), (g, f_dia), (g + 1, f_dia_meetings)] := fun _ _ _ _ _ _ _ _ _ _ _ => by
    show List.Nodup _
    simp only [List.map_cons, List.map_nil, List.nodup_cons, List.mem_cons, List.not_mem_nil, or_false, not_or, not_false_eq_true, List.nodup_nil, and_true]
    omega
  obtain ⟨P, hPQ, hP⟩ : ∃ P : Int32 × mF × mF × mF × mF × mF × mF × mF × mF × mF × mF → Prop, (∀ (q : Int32) (q0 : mF) (q1 : mF) (q2 : mF) (q3 : mF) (q4 : mF) (q5 : mF) (q6 : mF) (q7 : mF) (q8 : mF) (q9 : mF), P (q, q0, q1, q2, q3, q4, q5, q6, q7, q8, q9) → Q (some q) (mH B (mE v [(b, f_this), (b + 1, q0), (b + 3, q1), (b + 4, q2), (b + 4 + 1, q3), (b + 4 + 2, q4), (b + 4 + 3, q5), (b + 9, q6), (b + 10, q7), (g, q8), (g + 1, q9)]) w)) ∧ P (FX3_communicate x1 f_this f_reg f_memory f_timers f_timers_process f_timers_time f_timers_isBy f_links_0 f_links_1 f_dia f_dia_meetings) := ⟨fun res => Q (some res.1) (mH B (mE v [(b, f_this), (b + 1, res.2.1), (b + 3, res.2.2.1), (b + 4, res.2.2.2.1), (b + 4 + 1, res.2.2.2.2.1), (b + 4 + 2, res.2.2.2.2.2.1), (b + 4 + 3, res.2.2.2.2.2.2.1), (b + 9, res.2.2.2.2.2.2.2.1), (b + 10, res.2.2.2.2.2.2.2.2.1), (g, res.2.2.2.2.2.2.2.2.2.1), (g + 1, res.2.2.2.2.2.2.2.2.2.2)]) w), fun _ _ _ _ _ _ _ _ _ _ _ h => h, hQ⟩
  refine r_begin mt_52 (by intro a ha; simp only [List.mem_cons, List.not_mem_nil, or_false] at ha; rcases ha with rfl | rfl <;> rfl) (Nat.le_of_ble_eq_true rfl) ?_
  rw [FX3_communicate] at hP
  rw [OX3_communicate] at hO
  show RB _ _ _ _ [some (.ref b), some (.int x1), none, none, none, none, none] [] _ _
  refine r_aload rfl ?_
  refine r_getr (q := b + 1) hB.1 hB.2.2.2.2.2.2.2.2.2.2.1 ?_
  refine r_int ?_
  refine r_ald (x := f_reg 0) 1 0 (hn _ _ _ _ _ _ _ _ _ _ _) rfl hB.2.1 (by decide) rfl (lt_in 0 20 rfl rfl) (lt_cl 0 rfl) rfl ?_
  refine r_istore (L' := [some (.ref b), some (.int x1), some (.int (f_reg 0)), none, none, none, none]) rfl rfl ?_
  refine r_aload rfl ?_
  refine r_getr (q := b + 1) hB.1 hB.2.2.2.2.2.2.2.2.2.2.1 ?_
  refine r_int ?_
  refine r_ald (x := f_reg 1) 1 1 (hn _ _ _ _ _ _ _ _ _ _ _) rfl hB.2.1 (by decide) rfl (lt_in 1 20 rfl rfl) (lt_cl 1 rfl) rfl ?_
  refine r_istore (L' := [some (.ref b), some (.int x1), some (.int (f_reg 0)), some (.int (f_reg 1)), none, none, none]) rfl rfl ?_
  refine r_aload rfl ?_
  refine r_getr (q := b + 1) hB.1 hB.2.2.2.2.2.2.2.2.2.2.1 ?_
  refine r_int ?_
  refine r_ald (x := f_reg 2) 1 2 (hn _ _ _ _ _ _ _ _ _ _ _) rfl hB.2.1 (by decide) rfl (lt_in 2 20 rfl rfl) (lt_cl 2 rfl) rfl ?_
  refine r_istore (L' := [some (.ref b), some (.int x1), some (.int (f_reg 0)), some (.int (f_reg 1)), some (.int (f_reg 2)), none, none]) rfl rfl ?_
  refine r_aload rfl ?_
  have k61 := fun (Q' : Option Int32 → mMH → Prop) hq => tX3_clear (d := d + 2) (B := B) (v := mE v [(b, f_this), (b + 1, f_reg), (b + 3, f_memory), (b + 4, f_timers), (b + 4 + 1, f_timers_process), (b + 4 + 2, f_timers_time), (b + 4 + 3, f_timers_isBy), (b + 9, f_links_0), (b + 10, f_links_1), (g, f_dia), (g + 1, f_dia_meetings)]) (w := w) (Q := Q') hB (by omega) f_reg hq
  generalize hg_u1 : FX3_clear f_reg = u1 at k61 hP hO
  try dsimp only at hP hO
  refine r_callM (st := []) (o := b) (as := []) (envc := [(b + 1, f_reg)]) (envc' := [(b + 1, u1.2)]) (env' := [(b, f_this), (b + 1, u1.2), (b + 3, f_memory), (b + 4, f_timers), (b + 4 + 1, f_timers_process), (b + 4 + 2, f_timers_time), (b + 4 + 3, f_timers_isBy), (b + 9, f_links_0), (b + 10, f_links_1), (g, f_dia), (g + 1, f_dia_meetings)]) (rv := none) [false, true, false, false, false, false, false, false, false, false, false] (hn _ _ _ _ _ _ _ _ _ _ _) rfl rfl (Nat.le_of_ble_eq_true rfl) hB.1 rfl [b + 1] rfl rfl rfl k61 ?_
  show RB _ _ _ _ _ [] _ _
  refine r_iload rfl ?_
  refine r_int ?_
  refine r_icmp (fun c2 : (f_reg 0) < 1 => ?_) (fun c2 : ¬ ((f_reg 0) < 1) => ?_)
  · rw [if_pos c2] at hP
    have hO := hO.1 c2
    refine r_int ?_
    exact r_ret rfl rfl (hPQ 0 u1.2 f_memory f_timers f_timers_process f_timers_time f_timers_isBy f_links_0 f_links_1 f_dia f_dia_meetings hP)
  · rw [if_neg c2] at hP
    have hO := hO.2 c2
    refine r_iload rfl ?_
    refine r_int ?_
    refine r_icmp (fun c3 : 8 < (f_reg 0) => ?_) (fun c3 : ¬ (8 < (f_reg 0)) => ?_)
    · rw [if_pos c3] at hP
      have hO := hO.1 c3
      refine r_int ?_
      exact r_ret rfl rfl (hPQ 0 u1.2 f_memory f_timers f_timers_process f_timers_time f_timers_isBy f_links_0 f_links_1 f_dia f_dia_meetings hP)
    · rw [if_neg c3] at hP
      have hO := hO.2 c3
      refine r_iload rfl ?_
      have k60 := fun (Q' : Option Int32 → mMH → Prop) hq => tX9_isPlace (d := d + 2) (B := B) (v := mE v [(b, f_this), (b + 1, u1.2), (b + 3, f_memory), (b + 4, f_timers), (b + 4 + 1, f_timers_process), (b + 4 + 2, f_timers_time), (b + 4 + 3, f_timers_isBy), (b + 9, f_links_0), (b + 10, f_links_1), (g, f_dia), (g + 1, f_dia_meetings)]) (w := w) (Q := Q') (f_reg 1) hq
      generalize hg_u4 : FX9_isPlace (f_reg 1) = u4 at k60 hP hO
      try dsimp only at hP hO
      refine r_callS (st := []) (as := [.int (f_reg 1)]) (envc := []) (envc' := []) (env' := [(b, f_this), (b + 1, u1.2), (b + 3, f_memory), (b + 4, f_timers), (b + 4 + 1, f_timers_process), (b + 4 + 2, f_timers_time), (b + 4 + 3, f_timers_isBy), (b + 9, f_links_0), (b + 10, f_links_1), (g, f_dia), (g + 1, f_dia_meetings)]) (rv := some u4) [] (Or.inr rfl) (hn _ _ _ _ _ _ _ _ _ _ _) rfl rfl (Nat.le_of_ble_eq_true rfl) rfl rfl rfl k60 ?_
      show RB _ _ _ _ _ [.int u4] _ _
      refine r_if (fun c5 : u4 = 0 => ?_) (fun c5 : ¬ (u4 = 0) => ?_)
      · rw [if_pos c5] at hP
        have hO := hO.1 c5
        refine r_int ?_
        exact r_ret rfl rfl (hPQ 0 u1.2 f_memory f_timers f_timers_process f_timers_time f_timers_isBy f_links_0 f_links_1 f_dia f_dia_meetings hP)
      · rw [if_neg c5] at hP
        have hO := hO.2 c5
        refine r_iload rfl ?_
        refine r_iload rfl ?_
        have k59 := fun (Q' : Option Int32 → mMH → Prop) hq => tX9_arePlaces (d := d + 2) (B := B) (v := mE v [(b, f_this), (b + 1, u1.2), (b + 3, f_memory), (b + 4, f_timers), (b + 4 + 1, f_timers_process), (b + 4 + 2, f_timers_time), (b + 4 + 3, f_timers_isBy), (b + 9, f_links_0), (b + 10, f_links_1), (g, f_dia), (g + 1, f_dia_meetings)]) (w := w) (Q := Q') (f_reg 2) (f_reg 0) hq
        generalize hg_u6 : FX9_arePlaces (f_reg 2) (f_reg 0) = u6 at k59 hP hO
        try dsimp only at hP hO
        refine r_callS (st := []) (as := [.int (f_reg 2), .int (f_reg 0)]) (envc := []) (envc' := []) (env' := [(b, f_this), (b + 1, u1.2), (b + 3, f_memory), (b + 4, f_timers), (b + 4 + 1, f_timers_process), (b + 4 + 2, f_timers_time), (b + 4 + 3, f_timers_isBy), (b + 9, f_links_0), (b + 10, f_links_1), (g, f_dia), (g + 1, f_dia_meetings)]) (rv := some u6) [] (Or.inr rfl) (hn _ _ _ _ _ _ _ _ _ _ _) rfl rfl (Nat.le_of_ble_eq_true rfl) rfl rfl rfl k59 ?_
        show RB _ _ _ _ _ [.int u6] _ _
        refine r_if1 (fun c7 : u6 = 0 => ?_) (fun c7 : ¬ (u6 = 0) => ?_)
        · rw [if_pos c7] at hP
          have hO := hO.1 c7
          refine r_fall ?_
          refine r_int ?_
          exact r_ret rfl rfl (hPQ 0 u1.2 f_memory f_timers f_timers_process f_timers_time f_timers_isBy f_links_0 f_links_1 f_dia f_dia_meetings hP)
        · rw [if_neg c7] at hP
          have hO := hO.2 c7
          refine r_iload rfl ?_
          refine r_int ?_
          refine r_icmp (fun c8 : 4 ≤ (f_reg 1) => ?_) (fun c8 : ¬ (4 ≤ (f_reg 1)) => ?_)
          · rw [if_pos c8] at hP
            have hO := hO.1 c8
            refine r_aload rfl ?_
            refine r_getr (q := b + 3) hB.1 hB.2.2.2.2.2.2.2.2.2.2.2.2.1 ?_
            refine r_iload rfl ?_
            obtain ⟨h9, hO⟩ := hO
            refine r_ald (x := f_memory ((f_reg 1 : Int32).toNatClampNeg)) 2 ((f_reg 1 : Int32).toNatClampNeg) (hn _ _ _ _ _ _ _ _ _ _ _) rfl hB.2.2.2.1 (by decide) rfl h9 rfl rfl ?_
            refine r_istore (L' := [some (.ref b), some (.int x1), some (.int (f_reg 0)), some (.int (f_reg 1)), some (.int (f_reg 2)), some (.int (f_memory ((f_reg 1 : Int32).toNatClampNeg))), none]) rfl rfl ?_
            refine r_iload rfl ?_
            refine r_int ?_
            refine r_icmp1 (fun c10 : (f_memory ((f_reg 1 : Int32).toNatClampNeg)) = (-1) => ?_) (fun c10 : ¬ ((f_memory ((f_reg 1 : Int32).toNatClampNeg)) = (-1)) => ?_)
            · rw [if_pos c10] at hP
              have hO := hO.1 c10
              refine r_aload rfl ?_
              refine r_iload rfl ?_
              refine r_iload rfl ?_
              have h12 := hO
              have k13 := fun (Q' : Option Int32 → mMH → Prop) hq => tX3_waitAt (d := d + 1) (B := B) (v := mE v [(b, f_this), (b + 1, u1.2), (b + 3, f_memory), (b + 4, f_timers), (b + 4 + 1, f_timers_process), (b + 4 + 2, f_timers_time), (b + 4 + 3, f_timers_isBy), (b + 9, f_links_0), (b + 10, f_links_1), (g, f_dia), (g + 1, f_dia_meetings)]) (w := w) (Q := Q') hB (by omega) (f_reg 1) (f_reg 2) u1.2 f_memory h12 hq
              generalize hg_u11 : FX3_waitAt (f_reg 1) (f_reg 2) u1.2 f_memory = u11 at k13 hP
              try dsimp only at hP
              refine r_callM (st := []) (o := b) (as := [.int (f_reg 1), .int (f_reg 2)]) (envc := [(b + 1, u1.2), (b + 3, f_memory)]) (envc' := [(b + 1, u11.2.1), (b + 3, u11.2.2)]) (env' := [(b, f_this), (b + 1, u11.2.1), (b + 3, u11.2.2), (b + 4, f_timers), (b + 4 + 1, f_timers_process), (b + 4 + 2, f_timers_time), (b + 4 + 3, f_timers_isBy), (b + 9, f_links_0), (b + 10, f_links_1), (g, f_dia), (g + 1, f_dia_meetings)]) (rv := none) [false, true, true, false, false, false, false, false, false, false, false] (hn _ _ _ _ _ _ _ _ _ _ _) rfl rfl (Nat.le_of_ble_eq_true rfl) hB.1 rfl [b + 1, b + 3] rfl rfl rfl k13 ?_
              show RB _ _ _ _ _ [] _ _
              refine r_int ?_
              exact r_ret rfl rfl (hPQ 1 u11.2.1 u11.2.2 f_timers f_timers_process f_timers_time f_timers_isBy f_links_0 f_links_1 f_dia f_dia_meetings hP)
            · rw [if_neg c10] at hP
              have hO := hO.2 c10
              refine r_iload rfl ?_
              have k51 := fun (Q' : Option Int32 → mMH → Prop) hq => tX9_isProcess (d := d + 2) (B := B) (v := mE v [(b, f_this), (b + 1, u1.2), (b + 3, f_memory), (b + 4, f_timers), (b + 4 + 1, f_timers_process), (b + 4 + 2, f_timers_time), (b + 4 + 3, f_timers_isBy), (b + 9, f_links_0), (b + 10, f_links_1), (g, f_dia), (g + 1, f_dia_meetings)]) (w := w) (Q := Q') (f_memory ((f_reg 1 : Int32).toNatClampNeg)) hq
              generalize hg_u14 : FX9_isProcess (f_memory ((f_reg 1 : Int32).toNatClampNeg)) = u14 at k51 hP hO
              try dsimp only at hP hO
              refine r_callS (st := []) (as := [.int (f_memory ((f_reg 1 : Int32).toNatClampNeg))]) (envc := []) (envc' := []) (env' := [(b, f_this), (b + 1, u1.2), (b + 3, f_memory), (b + 4, f_timers), (b + 4 + 1, f_timers_process), (b + 4 + 2, f_timers_time), (b + 4 + 3, f_timers_isBy), (b + 9, f_links_0), (b + 10, f_links_1), (g, f_dia), (g + 1, f_dia_meetings)]) (rv := some u14) [] (Or.inr rfl) (hn _ _ _ _ _ _ _ _ _ _ _) rfl rfl (Nat.le_of_ble_eq_true rfl) rfl rfl rfl k51 ?_
              show RB _ _ _ _ _ [.int u14] _ _
              refine r_if1 (fun c15 : u14 = 0 => ?_) (fun c15 : ¬ (u14 = 0) => ?_)
              · rw [if_pos c15] at hP
                have hO := hO.1 c15
                refine r_int ?_
                exact r_ret rfl rfl (hPQ 0 u1.2 f_memory f_timers f_timers_process f_timers_time f_timers_isBy f_links_0 f_links_1 f_dia f_dia_meetings hP)
              · rw [if_neg c15] at hP
                have hO := hO.2 c15
                refine r_aload rfl ?_
                refine r_getr (q := b + 3) hB.1 hB.2.2.2.2.2.2.2.2.2.2.2.2.1 ?_
                refine r_iload rfl ?_
                refine r_int ?_
                refine r_idiv (by decide) ?_
                refine r_int ?_
                refine r_isub ?_
                obtain ⟨h16, hO⟩ := hO
                refine r_ald (x := f_memory ((((f_memory ((f_reg 1 : Int32).toNatClampNeg)) / 2) - 3 : Int32).toNatClampNeg)) 2 ((((f_memory ((f_reg 1 : Int32).toNatClampNeg)) / 2) - 3 : Int32).toNatClampNeg) (hn _ _ _ _ _ _ _ _ _ _ _) rfl hB.2.2.2.1 (by decide) rfl h16 rfl rfl ?_
                refine r_istore (L' := [some (.ref b), some (.int x1), some (.int (f_reg 0)), some (.int (f_reg 1)), some (.int (f_reg 2)), some (.int (f_memory ((f_reg 1 : Int32).toNatClampNeg))), some (.int (f_memory ((((f_memory ((f_reg 1 : Int32).toNatClampNeg)) / 2) - 3 : Int32).toNatClampNeg)))]) rfl rfl ?_
                refine r_iload rfl ?_
                refine r_if (fun c17 : x1 = 0 => ?_) (fun c17 : ¬ (x1 = 0) => ?_)
                · rw [if_pos c17] at hP
                  have hO := hO.1 c17
                  refine r_iload rfl ?_
                  refine r_iload rfl ?_
                  have k23 := fun (Q' : Option Int32 → mMH → Prop) hq => tX9_arePlaces (d := d + 2) (B := B) (v := mE v [(b, f_this), (b + 1, u1.2), (b + 3, f_memory), (b + 4, f_timers), (b + 4 + 1, f_timers_process), (b + 4 + 2, f_timers_time), (b + 4 + 3, f_timers_isBy), (b + 9, f_links_0), (b + 10, f_links_1), (g, f_dia), (g + 1, f_dia_meetings)]) (w := w) (Q := Q') (f_memory ((((f_memory ((f_reg 1 : Int32).toNatClampNeg)) / 2) - 3 : Int32).toNatClampNeg)) (f_reg 0) hq
                  generalize hg_u18 : FX9_arePlaces (f_memory ((((f_memory ((f_reg 1 : Int32).toNatClampNeg)) / 2) - 3 : Int32).toNatClampNeg)) (f_reg 0) = u18 at k23 hP hO
                  try dsimp only at hP hO
                  refine r_callS (st := []) (as := [.int (f_memory ((((f_memory ((f_reg 1 : Int32).toNatClampNeg)) / 2) - 3 : Int32).toNatClampNeg)), .int (f_reg 0)]) (envc := []) (envc' := []) (env' := [(b, f_this), (b + 1, u1.2), (b + 3, f_memory), (b + 4, f_timers), (b + 4 + 1, f_timers_process), (b + 4 + 2, f_timers_time), (b + 4 + 3, f_timers_isBy), (b + 9, f_links_0), (b + 10, f_links_1), (g, f_dia), (g + 1, f_dia_meetings)]) (rv := some u18) [] (Or.inr rfl) (hn _ _ _ _ _ _ _ _ _ _ _) rfl rfl (Nat.le_of_ble_eq_true rfl) rfl rfl rfl k23 ?_
                  show RB _ _ _ _ _ [.int u18] _ _
                  refine r_if1 (fun c19 : u18 = 0 => ?_) (fun c19 : ¬ (u18 = 0) => ?_)
                  · rw [if_pos c19] at hP
                    have hO := hO.1 c19
                    refine r_int ?_
                    exact r_ret rfl rfl (hPQ 0 u1.2 f_memory f_timers f_timers_process f_timers_time f_timers_isBy f_links_0 f_links_1 f_dia f_dia_meetings hP)
                  · rw [if_neg c19] at hP
                    have hO := hO.2 c19
                    refine r_aload rfl ?_
                    refine r_iload rfl ?_
                    refine r_iload rfl ?_
                    refine r_iload rfl ?_
                    refine r_iload rfl ?_
                    refine r_iload rfl ?_
                    have h21 := hO
                    have k22 := fun (Q' : Option Int32 → mMH → Prop) hq => tX3_meet (d := d + 0) (B := B) (v := mE v [(b, f_this), (b + 1, u1.2), (b + 3, f_memory), (b + 4, f_timers), (b + 4 + 1, f_timers_process), (b + 4 + 2, f_timers_time), (b + 4 + 3, f_timers_isBy), (b + 9, f_links_0), (b + 10, f_links_1), (g, f_dia), (g + 1, f_dia_meetings)]) (w := w) (Q := Q') hB (by omega) x1 (f_reg 1) (f_memory ((f_reg 1 : Int32).toNatClampNeg)) (f_reg 0) (f_reg 2) f_this u1.2 f_memory f_dia f_dia_meetings h21 hq
                    generalize hg_u20 : FX3_meet x1 (f_reg 1) (f_memory ((f_reg 1 : Int32).toNatClampNeg)) (f_reg 0) (f_reg 2) f_this u1.2 f_memory f_dia f_dia_meetings = u20 at k22 hP
                    try dsimp only at hP
                    refine r_callM (st := []) (o := b) (as := [.int x1, .int (f_reg 1), .int (f_memory ((f_reg 1 : Int32).toNatClampNeg)), .int (f_reg 0), .int (f_reg 2)]) (envc := [(b, f_this), (b + 1, u1.2), (b + 3, f_memory), (g, f_dia), (g + 1, f_dia_meetings)]) (envc' := [(b, f_this), (b + 1, u20.2.1), (b + 3, u20.2.2.1), (g, u20.2.2.2.1), (g + 1, u20.2.2.2.2)]) (env' := [(b, f_this), (b + 1, u20.2.1), (b + 3, u20.2.2.1), (b + 4, f_timers), (b + 4 + 1, f_timers_process), (b + 4 + 2, f_timers_time), (b + 4 + 3, f_timers_isBy), (b + 9, f_links_0), (b + 10, f_links_1), (g, u20.2.2.2.1), (g + 1, u20.2.2.2.2)]) (rv := none) [true, true, true, false, false, false, false, false, false, true, true] (hn _ _ _ _ _ _ _ _ _ _ _) rfl rfl (Nat.le_of_ble_eq_true rfl) hB.1 rfl [b, b + 1, b + 3, g, g + 1] rfl rfl rfl k22 ?_
                    show RB _ _ _ _ _ [] _ _
                    refine r_int ?_
                    exact r_ret rfl rfl (hPQ 1 u20.2.1 u20.2.2.1 f_timers f_timers_process f_timers_time f_timers_isBy f_links_0 f_links_1 u20.2.2.2.1 u20.2.2.2.2 hP)
                · rw [if_neg c17] at hP
                  have hO := hO.2 c17
                  refine r_iload rfl ?_
                  refine r_int ?_
                  refine r_icmp (fun c24 : (f_memory ((((f_memory ((f_reg 1 : Int32).toNatClampNeg)) / 2) - 3 : Int32).toNatClampNeg)) = (-2) => ?_) (fun c24 : ¬ ((f_memory ((((f_memory ((f_reg 1 : Int32).toNatClampNeg)) / 2) - 3 : Int32).toNatClampNeg)) = (-2)) => ?_)
                  · rw [if_pos c24] at hP
                    have hO := hO.1 c24
                    refine r_aload rfl ?_
                    refine r_iload rfl ?_
                    obtain ⟨h26, hO⟩ := hO
                    have k30 := fun (Q' : Option Int32 → mMH → Prop) hq => tX3_alert (d := d + 0) (B := B) (v := mE v [(b, f_this), (b + 1, u1.2), (b + 3, f_memory), (b + 4, f_timers), (b + 4 + 1, f_timers_process), (b + 4 + 2, f_timers_time), (b + 4 + 3, f_timers_isBy), (b + 9, f_links_0), (b + 10, f_links_1), (g, f_dia), (g + 1, f_dia_meetings)]) (w := w) (Q := Q') hB (by omega) (f_memory ((f_reg 1 : Int32).toNatClampNeg)) u1.2 f_memory f_timers f_timers_process f_timers_time f_timers_isBy h26 hq
                    generalize hg_u25 : FX3_alert (f_memory ((f_reg 1 : Int32).toNatClampNeg)) u1.2 f_memory f_timers f_timers_process f_timers_time f_timers_isBy = u25 at k30 hP hO
                    try dsimp only at hP hO
                    refine r_callM (st := []) (o := b) (as := [.int (f_memory ((f_reg 1 : Int32).toNatClampNeg))]) (envc := [(b + 1, u1.2), (b + 3, f_memory), (b + 4, f_timers), (b + 4 + 1, f_timers_process), (b + 4 + 2, f_timers_time), (b + 4 + 3, f_timers_isBy)]) (envc' := [(b + 1, u25.2.1), (b + 3, u25.2.2.1), (b + 4, u25.2.2.2.1), (b + 4 + 1, u25.2.2.2.2.1), (b + 4 + 2, u25.2.2.2.2.2.1), (b + 4 + 3, u25.2.2.2.2.2.2)]) (env' := [(b, f_this), (b + 1, u25.2.1), (b + 3, u25.2.2.1), (b + 4, u25.2.2.2.1), (b + 4 + 1, u25.2.2.2.2.1), (b + 4 + 2, u25.2.2.2.2.2.1), (b + 4 + 3, u25.2.2.2.2.2.2), (b + 9, f_links_0), (b + 10, f_links_1), (g, f_dia), (g + 1, f_dia_meetings)]) (rv := none) [false, true, true, true, true, true, true, false, false, false, false] (hn _ _ _ _ _ _ _ _ _ _ _) rfl rfl (Nat.le_of_ble_eq_true rfl) hB.1 rfl [b + 1, b + 3, b + 4, b + 4 + 1, b + 4 + 2, b + 4 + 3] rfl rfl rfl k30 ?_
                    show RB _ _ _ _ _ [] _ _
                    refine r_aload rfl ?_
                    refine r_iload rfl ?_
                    refine r_iload rfl ?_
                    have h28 := hO
                    have k29 := fun (Q' : Option Int32 → mMH → Prop) hq => tX3_waitAt (d := d + 1) (B := B) (v := mE v [(b, f_this), (b + 1, u25.2.1), (b + 3, u25.2.2.1), (b + 4, u25.2.2.2.1), (b + 4 + 1, u25.2.2.2.2.1), (b + 4 + 2, u25.2.2.2.2.2.1), (b + 4 + 3, u25.2.2.2.2.2.2), (b + 9, f_links_0), (b + 10, f_links_1), (g, f_dia), (g + 1, f_dia_meetings)]) (w := w) (Q := Q') hB (by omega) (f_reg 1) (f_reg 2) u25.2.1 u25.2.2.1 h28 hq
                    generalize hg_u27 : FX3_waitAt (f_reg 1) (f_reg 2) u25.2.1 u25.2.2.1 = u27 at k29 hP
                    try dsimp only at hP
                    refine r_callM (st := []) (o := b) (as := [.int (f_reg 1), .int (f_reg 2)]) (envc := [(b + 1, u25.2.1), (b + 3, u25.2.2.1)]) (envc' := [(b + 1, u27.2.1), (b + 3, u27.2.2)]) (env' := [(b, f_this), (b + 1, u27.2.1), (b + 3, u27.2.2), (b + 4, u25.2.2.2.1), (b + 4 + 1, u25.2.2.2.2.1), (b + 4 + 2, u25.2.2.2.2.2.1), (b + 4 + 3, u25.2.2.2.2.2.2), (b + 9, f_links_0), (b + 10, f_links_1), (g, f_dia), (g + 1, f_dia_meetings)]) (rv := none) [false, true, true, false, false, false, false, false, false, false, false] (hn _ _ _ _ _ _ _ _ _ _ _) rfl rfl (Nat.le_of_ble_eq_true rfl) hB.1 rfl [b + 1, b + 3] rfl rfl rfl k29 ?_
                    show RB _ _ _ _ _ [] _ _
                    refine r_int ?_
                    exact r_ret rfl rfl (hPQ 1 u27.2.1 u27.2.2 u25.2.2.2.1 u25.2.2.2.2.1 u25.2.2.2.2.2.1 u25.2.2.2.2.2.2 f_links_0 f_links_1 f_dia f_dia_meetings hP)
                  · rw [if_neg c24] at hP
                    have hO := hO.2 c24
                    refine r_iload rfl ?_
                    refine r_int ?_
                    refine r_icmp (fun c31 : (f_memory ((((f_memory ((f_reg 1 : Int32).toNatClampNeg)) / 2) - 3 : Int32).toNatClampNeg)) = (-3) => ?_) (fun c31 : ¬ ((f_memory ((((f_memory ((f_reg 1 : Int32).toNatClampNeg)) / 2) - 3 : Int32).toNatClampNeg)) = (-3)) => ?_)
                    · rw [if_pos c31] at hP
                      have hO := hO.1 c31
                      refine r_aload rfl ?_
                      refine r_iload rfl ?_
                      obtain ⟨h33, hO⟩ := hO
                      have k37 := fun (Q' : Option Int32 → mMH → Prop) hq => tX3_alert (d := d + 0) (B := B) (v := mE v [(b, f_this), (b + 1, u1.2), (b + 3, f_memory), (b + 4, f_timers), (b + 4 + 1, f_timers_process), (b + 4 + 2, f_timers_time), (b + 4 + 3, f_timers_isBy), (b + 9, f_links_0), (b + 10, f_links_1), (g, f_dia), (g + 1, f_dia_meetings)]) (w := w) (Q := Q') hB (by omega) (f_memory ((f_reg 1 : Int32).toNatClampNeg)) u1.2 f_memory f_timers f_timers_process f_timers_time f_timers_isBy h33 hq
                      generalize hg_u32 : FX3_alert (f_memory ((f_reg 1 : Int32).toNatClampNeg)) u1.2 f_memory f_timers f_timers_process f_timers_time f_timers_isBy = u32 at k37 hP hO
                      try dsimp only at hP hO
                      refine r_callM (st := []) (o := b) (as := [.int (f_memory ((f_reg 1 : Int32).toNatClampNeg))]) (envc := [(b + 1, u1.2), (b + 3, f_memory), (b + 4, f_timers), (b + 4 + 1, f_timers_process), (b + 4 + 2, f_timers_time), (b + 4 + 3, f_timers_isBy)]) (envc' := [(b + 1, u32.2.1), (b + 3, u32.2.2.1), (b + 4, u32.2.2.2.1), (b + 4 + 1, u32.2.2.2.2.1), (b + 4 + 2, u32.2.2.2.2.2.1), (b + 4 + 3, u32.2.2.2.2.2.2)]) (env' := [(b, f_this), (b + 1, u32.2.1), (b + 3, u32.2.2.1), (b + 4, u32.2.2.2.1), (b + 4 + 1, u32.2.2.2.2.1), (b + 4 + 2, u32.2.2.2.2.2.1), (b + 4 + 3, u32.2.2.2.2.2.2), (b + 9, f_links_0), (b + 10, f_links_1), (g, f_dia), (g + 1, f_dia_meetings)]) (rv := none) [false, true, true, true, true, true, true, false, false, false, false] (hn _ _ _ _ _ _ _ _ _ _ _) rfl rfl (Nat.le_of_ble_eq_true rfl) hB.1 rfl [b + 1, b + 3, b + 4, b + 4 + 1, b + 4 + 2, b + 4 + 3] rfl rfl rfl k37 ?_
                      show RB _ _ _ _ _ [] _ _
                      refine r_aload rfl ?_
                      refine r_iload rfl ?_
                      refine r_iload rfl ?_
                      have h35 := hO
                      have k36 := fun (Q' : Option Int32 → mMH → Prop) hq => tX3_waitAt (d := d + 1) (B := B) (v := mE v [(b, f_this), (b + 1, u32.2.1), (b + 3, u32.2.2.1), (b + 4, u32.2.2.2.1), (b + 4 + 1, u32.2.2.2.2.1), (b + 4 + 2, u32.2.2.2.2.2.1), (b + 4 + 3, u32.2.2.2.2.2.2), (b + 9, f_links_0), (b + 10, f_links_1), (g, f_dia), (g + 1, f_dia_meetings)]) (w := w) (Q := Q') hB (by omega) (f_reg 1) (f_reg 2) u32.2.1 u32.2.2.1 h35 hq
                      generalize hg_u34 : FX3_waitAt (f_reg 1) (f_reg 2) u32.2.1 u32.2.2.1 = u34 at k36 hP
                      try dsimp only at hP
                      refine r_callM (st := []) (o := b) (as := [.int (f_reg 1), .int (f_reg 2)]) (envc := [(b + 1, u32.2.1), (b + 3, u32.2.2.1)]) (envc' := [(b + 1, u34.2.1), (b + 3, u34.2.2)]) (env' := [(b, f_this), (b + 1, u34.2.1), (b + 3, u34.2.2), (b + 4, u32.2.2.2.1), (b + 4 + 1, u32.2.2.2.2.1), (b + 4 + 2, u32.2.2.2.2.2.1), (b + 4 + 3, u32.2.2.2.2.2.2), (b + 9, f_links_0), (b + 10, f_links_1), (g, f_dia), (g + 1, f_dia_meetings)]) (rv := none) [false, true, true, false, false, false, false, false, false, false, false] (hn _ _ _ _ _ _ _ _ _ _ _) rfl rfl (Nat.le_of_ble_eq_true rfl) hB.1 rfl [b + 1, b + 3] rfl rfl rfl k36 ?_
                      show RB _ _ _ _ _ [] _ _
                      refine r_int ?_
                      exact r_ret rfl rfl (hPQ 1 u34.2.1 u34.2.2 u32.2.2.2.1 u32.2.2.2.2.1 u32.2.2.2.2.2.1 u32.2.2.2.2.2.2 f_links_0 f_links_1 f_dia f_dia_meetings hP)
                    · rw [if_neg c31] at hP
                      have hO := hO.2 c31
                      refine r_iload rfl ?_
                      refine r_int ?_
                      refine r_icmp1 (fun c38 : (f_memory ((((f_memory ((f_reg 1 : Int32).toNatClampNeg)) / 2) - 3 : Int32).toNatClampNeg)) = (-4) => ?_) (fun c38 : ¬ ((f_memory ((((f_memory ((f_reg 1 : Int32).toNatClampNeg)) / 2) - 3 : Int32).toNatClampNeg)) = (-4)) => ?_)
                      · rw [if_pos c38] at hP
                        have hO := hO.1 c38
                        refine r_fall ?_
                        refine r_aload rfl ?_
                        refine r_iload rfl ?_
                        obtain ⟨h40, hO⟩ := hO
                        have k44 := fun (Q' : Option Int32 → mMH → Prop) hq => tX3_alert (d := d + 0) (B := B) (v := mE v [(b, f_this), (b + 1, u1.2), (b + 3, f_memory), (b + 4, f_timers), (b + 4 + 1, f_timers_process), (b + 4 + 2, f_timers_time), (b + 4 + 3, f_timers_isBy), (b + 9, f_links_0), (b + 10, f_links_1), (g, f_dia), (g + 1, f_dia_meetings)]) (w := w) (Q := Q') hB (by omega) (f_memory ((f_reg 1 : Int32).toNatClampNeg)) u1.2 f_memory f_timers f_timers_process f_timers_time f_timers_isBy h40 hq
                        generalize hg_u39 : FX3_alert (f_memory ((f_reg 1 : Int32).toNatClampNeg)) u1.2 f_memory f_timers f_timers_process f_timers_time f_timers_isBy = u39 at k44 hP hO
                        try dsimp only at hP hO
                        refine r_callM (st := []) (o := b) (as := [.int (f_memory ((f_reg 1 : Int32).toNatClampNeg))]) (envc := [(b + 1, u1.2), (b + 3, f_memory), (b + 4, f_timers), (b + 4 + 1, f_timers_process), (b + 4 + 2, f_timers_time), (b + 4 + 3, f_timers_isBy)]) (envc' := [(b + 1, u39.2.1), (b + 3, u39.2.2.1), (b + 4, u39.2.2.2.1), (b + 4 + 1, u39.2.2.2.2.1), (b + 4 + 2, u39.2.2.2.2.2.1), (b + 4 + 3, u39.2.2.2.2.2.2)]) (env' := [(b, f_this), (b + 1, u39.2.1), (b + 3, u39.2.2.1), (b + 4, u39.2.2.2.1), (b + 4 + 1, u39.2.2.2.2.1), (b + 4 + 2, u39.2.2.2.2.2.1), (b + 4 + 3, u39.2.2.2.2.2.2), (b + 9, f_links_0), (b + 10, f_links_1), (g, f_dia), (g + 1, f_dia_meetings)]) (rv := none) [false, true, true, true, true, true, true, false, false, false, false] (hn _ _ _ _ _ _ _ _ _ _ _) rfl rfl (Nat.le_of_ble_eq_true rfl) hB.1 rfl [b + 1, b + 3, b + 4, b + 4 + 1, b + 4 + 2, b + 4 + 3] rfl rfl rfl k44 ?_
                        show RB _ _ _ _ _ [] _ _
                        refine r_aload rfl ?_
                        refine r_iload rfl ?_
                        refine r_iload rfl ?_
                        have h42 := hO
                        have k43 := fun (Q' : Option Int32 → mMH → Prop) hq => tX3_waitAt (d := d + 1) (B := B) (v := mE v [(b, f_this), (b + 1, u39.2.1), (b + 3, u39.2.2.1), (b + 4, u39.2.2.2.1), (b + 4 + 1, u39.2.2.2.2.1), (b + 4 + 2, u39.2.2.2.2.2.1), (b + 4 + 3, u39.2.2.2.2.2.2), (b + 9, f_links_0), (b + 10, f_links_1), (g, f_dia), (g + 1, f_dia_meetings)]) (w := w) (Q := Q') hB (by omega) (f_reg 1) (f_reg 2) u39.2.1 u39.2.2.1 h42 hq
                        generalize hg_u41 : FX3_waitAt (f_reg 1) (f_reg 2) u39.2.1 u39.2.2.1 = u41 at k43 hP
                        try dsimp only at hP
                        refine r_callM (st := []) (o := b) (as := [.int (f_reg 1), .int (f_reg 2)]) (envc := [(b + 1, u39.2.1), (b + 3, u39.2.2.1)]) (envc' := [(b + 1, u41.2.1), (b + 3, u41.2.2)]) (env' := [(b, f_this), (b + 1, u41.2.1), (b + 3, u41.2.2), (b + 4, u39.2.2.2.1), (b + 4 + 1, u39.2.2.2.2.1), (b + 4 + 2, u39.2.2.2.2.2.1), (b + 4 + 3, u39.2.2.2.2.2.2), (b + 9, f_links_0), (b + 10, f_links_1), (g, f_dia), (g + 1, f_dia_meetings)]) (rv := none) [false, true, true, false, false, false, false, false, false, false, false] (hn _ _ _ _ _ _ _ _ _ _ _) rfl rfl (Nat.le_of_ble_eq_true rfl) hB.1 rfl [b + 1, b + 3] rfl rfl rfl k43 ?_
                        show RB _ _ _ _ _ [] _ _
                        refine r_int ?_
                        exact r_ret rfl rfl (hPQ 1 u41.2.1 u41.2.2 u39.2.2.2.1 u39.2.2.2.2.1 u39.2.2.2.2.2.1 u39.2.2.2.2.2.2 f_links_0 f_links_1 f_dia f_dia_meetings hP)
                      · rw [if_neg c38] at hP
                        have hO := hO.2 c38
                        refine r_iload rfl ?_
                        refine r_iload rfl ?_
                        have k50 := fun (Q' : Option Int32 → mMH → Prop) hq => tX9_arePlaces (d := d + 2) (B := B) (v := mE v [(b, f_this), (b + 1, u1.2), (b + 3, f_memory), (b + 4, f_timers), (b + 4 + 1, f_timers_process), (b + 4 + 2, f_timers_time), (b + 4 + 3, f_timers_isBy), (b + 9, f_links_0), (b + 10, f_links_1), (g, f_dia), (g + 1, f_dia_meetings)]) (w := w) (Q := Q') (f_memory ((((f_memory ((f_reg 1 : Int32).toNatClampNeg)) / 2) - 3 : Int32).toNatClampNeg)) (f_reg 0) hq
                        generalize hg_u45 : FX9_arePlaces (f_memory ((((f_memory ((f_reg 1 : Int32).toNatClampNeg)) / 2) - 3 : Int32).toNatClampNeg)) (f_reg 0) = u45 at k50 hP hO
                        try dsimp only at hP hO
                        refine r_callS (st := []) (as := [.int (f_memory ((((f_memory ((f_reg 1 : Int32).toNatClampNeg)) / 2) - 3 : Int32).toNatClampNeg)), .int (f_reg 0)]) (envc := []) (envc' := []) (env' := [(b, f_this), (b + 1, u1.2), (b + 3, f_memory), (b + 4, f_timers), (b + 4 + 1, f_timers_process), (b + 4 + 2, f_timers_time), (b + 4 + 3, f_timers_isBy), (b + 9, f_links_0), (b + 10, f_links_1), (g, f_dia), (g + 1, f_dia_meetings)]) (rv := some u45) [] (Or.inr rfl) (hn _ _ _ _ _ _ _ _ _ _ _) rfl rfl (Nat.le_of_ble_eq_true rfl) rfl rfl rfl k50 ?_
                        show RB _ _ _ _ _ [.int u45] _ _
                        refine r_if1 (fun c46 : u45 = 0 => ?_) (fun c46 : ¬ (u45 = 0) => ?_)
                        · rw [if_pos c46] at hP
                          have hO := hO.1 c46
                          refine r_int ?_
                          exact r_ret rfl rfl (hPQ 0 u1.2 f_memory f_timers f_timers_process f_timers_time f_timers_isBy f_links_0 f_links_1 f_dia f_dia_meetings hP)
                        · rw [if_neg c46] at hP
                          have hO := hO.2 c46
                          refine r_aload rfl ?_
                          refine r_iload rfl ?_
                          refine r_iload rfl ?_
                          refine r_iload rfl ?_
                          refine r_iload rfl ?_
                          refine r_iload rfl ?_
                          have h48 := hO
                          have k49 := fun (Q' : Option Int32 → mMH → Prop) hq => tX3_meet (d := d + 0) (B := B) (v := mE v [(b, f_this), (b + 1, u1.2), (b + 3, f_memory), (b + 4, f_timers), (b + 4 + 1, f_timers_process), (b + 4 + 2, f_timers_time), (b + 4 + 3, f_timers_isBy), (b + 9, f_links_0), (b + 10, f_links_1), (g, f_dia), (g + 1, f_dia_meetings)]) (w := w) (Q := Q') hB (by omega) x1 (f_reg 1) (f_memory ((f_reg 1 : Int32).toNatClampNeg)) (f_reg 0) (f_reg 2) f_this u1.2 f_memory f_dia f_dia_meetings h48 hq
                          generalize hg_u47 : FX3_meet x1 (f_reg 1) (f_memory ((f_reg 1 : Int32).toNatClampNeg)) (f_reg 0) (f_reg 2) f_this u1.2 f_memory f_dia f_dia_meetings = u47 at k49 hP
                          try dsimp only at hP
                          refine r_callM (st := []) (o := b) (as := [.int x1, .int (f_reg 1), .int (f_memory ((f_reg 1 : Int32).toNatClampNeg)), .int (f_reg 0), .int (f_reg 2)]) (envc := [(b, f_this), (b + 1, u1.2), (b + 3, f_memory), (g, f_dia), (g + 1, f_dia_meetings)]) (envc' := [(b, f_this), (b + 1, u47.2.1), (b + 3, u47.2.2.1), (g, u47.2.2.2.1), (g + 1, u47.2.2.2.2)]) (env' := [(b, f_this), (b + 1, u47.2.1), (b + 3, u47.2.2.1), (b + 4, f_timers), (b + 4 + 1, f_timers_process), (b + 4 + 2, f_timers_time), (b + 4 + 3, f_timers_isBy), (b + 9, f_links_0), (b + 10, f_links_1), (g, u47.2.2.2.1), (g + 1, u47.2.2.2.2)]) (rv := none) [true, true, true, false, false, false, false, false, false, true, true] (hn _ _ _ _ _ _ _ _ _ _ _) rfl rfl (Nat.le_of_ble_eq_true rfl) hB.1 rfl [b, b + 1, b + 3, g, g + 1] rfl rfl rfl k49 ?_
                          show RB _ _ _ _ _ [] _ _
                          refine r_int ?_
                          exact r_ret rfl rfl (hPQ 1 u47.2.1 u47.2.2.1 f_timers f_timers_process f_timers_time f_timers_isBy f_links_0 f_links_1 u47.2.2.2.1 u47.2.2.2.2 hP)
          · rw [if_neg c8] at hP
            have hO := hO.2 c8
            refine r_aload rfl ?_
            refine r_iload rfl ?_
            refine r_iload rfl ?_
            refine r_if (fun c52 : x1 = 0 => ?_) (fun c52 : ¬ (x1 = 0) => ?_)
            · rw [if_pos c52] at hP
              have hO := hO.1 c52
              refine r_iload rfl ?_
              refine r_int ?_
              refine r_isub ?_
              refine r_fall ?_
              refine r_iload rfl ?_
              refine r_iload rfl ?_
              obtain ⟨h54, hO⟩ := hO
              have k55 := fun (Q' : Option Int32 → mMH → Prop) hq => tX3_useLink (d := d + 1) (B := B) (v := mE v [(b, f_this), (b + 1, u1.2), (b + 3, f_memory), (b + 4, f_timers), (b + 4 + 1, f_timers_process), (b + 4 + 2, f_timers_time), (b + 4 + 3, f_timers_isBy), (b + 9, f_links_0), (b + 10, f_links_1), (g, f_dia), (g + 1, f_dia_meetings)]) (w := w) (Q := Q') hB (by omega) x1 ((f_reg 1) - 2) (f_reg 2) (f_reg 0) u1.2 f_memory f_links_0 f_links_1 h54 hq
              generalize hg_u53 : FX3_useLink x1 ((f_reg 1) - 2) (f_reg 2) (f_reg 0) u1.2 f_memory f_links_0 f_links_1 = u53 at k55 hP hO
              try dsimp only at hP hO
              refine r_callM (st := []) (o := b) (as := [.int x1, .int ((f_reg 1) - 2), .int (f_reg 2), .int (f_reg 0)]) (envc := [(b + 1, u1.2), (b + 3, f_memory), (b + 9, f_links_0), (b + 10, f_links_1)]) (envc' := [(b + 1, u53.2.1), (b + 3, u53.2.2.1), (b + 9, u53.2.2.2.1), (b + 10, u53.2.2.2.2)]) (env' := [(b, f_this), (b + 1, u53.2.1), (b + 3, u53.2.2.1), (b + 4, f_timers), (b + 4 + 1, f_timers_process), (b + 4 + 2, f_timers_time), (b + 4 + 3, f_timers_isBy), (b + 9, u53.2.2.2.1), (b + 10, u53.2.2.2.2), (g, f_dia), (g + 1, f_dia_meetings)]) (rv := some u53.1) [false, true, true, false, false, false, false, true, true, false, false] (hn _ _ _ _ _ _ _ _ _ _ _) rfl rfl (Nat.le_of_ble_eq_true rfl) hB.1 rfl [b + 1, b + 3, b + 9, b + 10] rfl rfl rfl k55 ?_
              show RB _ _ _ _ _ [.int u53.1] _ _
              exact r_ret rfl (nz_ok hO) (hPQ u53.1 u53.2.1 u53.2.2.1 f_timers f_timers_process f_timers_time f_timers_isBy u53.2.2.2.1 u53.2.2.2.2 f_dia f_dia_meetings hP)
            · rw [if_neg c52] at hP
              have hO := hO.2 c52
              refine r_iload rfl ?_
              refine r_goto ?_
              refine r_iload rfl ?_
              refine r_iload rfl ?_
              obtain ⟨h57, hO⟩ := hO
              have k58 := fun (Q' : Option Int32 → mMH → Prop) hq => tX3_useLink (d := d + 1) (B := B) (v := mE v [(b, f_this), (b + 1, u1.2), (b + 3, f_memory), (b + 4, f_timers), (b + 4 + 1, f_timers_process), (b + 4 + 2, f_timers_time), (b + 4 + 3, f_timers_isBy), (b + 9, f_links_0), (b + 10, f_links_1), (g, f_dia), (g + 1, f_dia_meetings)]) (w := w) (Q := Q') hB (by omega) x1 (f_reg 1) (f_reg 2) (f_reg 0) u1.2 f_memory f_links_0 f_links_1 h57 hq
              generalize hg_u56 : FX3_useLink x1 (f_reg 1) (f_reg 2) (f_reg 0) u1.2 f_memory f_links_0 f_links_1 = u56 at k58 hP hO
              try dsimp only at hP hO
              refine r_callM (st := []) (o := b) (as := [.int x1, .int (f_reg 1), .int (f_reg 2), .int (f_reg 0)]) (envc := [(b + 1, u1.2), (b + 3, f_memory), (b + 9, f_links_0), (b + 10, f_links_1)]) (envc' := [(b + 1, u56.2.1), (b + 3, u56.2.2.1), (b + 9, u56.2.2.2.1), (b + 10, u56.2.2.2.2)]) (env' := [(b, f_this), (b + 1, u56.2.1), (b + 3, u56.2.2.1), (b + 4, f_timers), (b + 4 + 1, f_timers_process), (b + 4 + 2, f_timers_time), (b + 4 + 3, f_timers_isBy), (b + 9, u56.2.2.2.1), (b + 10, u56.2.2.2.2), (g, f_dia), (g + 1, f_dia_meetings)]) (rv := some u56.1) [false, true, true, false, false, false, false, true, true, false, false] (hn _ _ _ _ _ _ _ _ _ _ _) rfl rfl (Nat.le_of_ble_eq_true rfl) hB.1 rfl [b + 1, b + 3, b + 9, b + 10] rfl rfl rfl k58 ?_
              show RB _ _ _ _ _ [.int u56.1] _ _
              exact r_ret rfl (nz_ok hO) (hPQ u56.1 u56.2.1 u56.2.2.1 f_timers f_timers_process f_timers_time f_timers_isBy u56.2.2.2.1 u56.2.2.2.2 f_dia f_dia_meetings hP)

def FX3_waitForGuard (f_reg : mF) (f_memory : mF) : Int32 × mF × mF :=
  let g2 := upd f_memory ((f_reg 4 : Int32).toNatClampNeg) (-1); if (g2 (((f_reg 4) - 3 : Int32).toNatClampNeg)) = (-4) then (let u5 := FX3_clear f_reg; (1, u5.2, g2)) else (let g8 := upd g2 (((f_reg 4) - 3 : Int32).toNatClampNeg) (-3); let u9 := FX3_goOff f_reg g8; let u11 := FX3_clear u9.2.1; (1, u11.2, u9.2.2))
def OX3_waitForGuard (f_reg : mF) (f_memory : mF) : Prop :=
  vp_in (f_reg 4) 96 ∧ (let g2 := upd f_memory ((f_reg 4 : Int32).toNatClampNeg) (-1); vp_in ((f_reg 4) - 3) 96 ∧ (((g2 (((f_reg 4) - 3 : Int32).toNatClampNeg)) = (-4) → True) ∧ (¬ ((g2 (((f_reg 4) - 3 : Int32).toNatClampNeg)) = (-4)) → (vp_in ((f_reg 4) - 3) 96 ∧ (let g8 := upd g2 (((f_reg 4) - 3 : Int32).toNatClampNeg) (-3); OX3_goOff f_reg g8)))))
set_option maxRecDepth 20000 in
theorem tX3_waitForGuard {d : Nat} {B : mB} {v : mV} {w : mX} {Q : Option Int32 → mMH → Prop} {b g : Nat} (hB : isMach B b g) (hd : g + 2 ≤ b) (f_reg : mF) (f_memory : mF) (hO : OX3_waitForGuard f_reg f_memory) (hQ : Q (some ((FX3_waitForGuard f_reg f_memory).1)) (mH B (mE v [(b + 1, (FX3_waitForGuard f_reg f_memory).2.1), (b + 3, (FX3_waitForGuard f_reg f_memory).2.2)]) w)) : CQ (d + 2) 58 [.ref b] (mH B (mE v [(b + 1, f_reg), (b + 3, f_memory)]) w) Q := by
  have hn : ∀ (f_reg : mF) (f_memory : mF), mNd [(b + 1, f_reg), (b + 3, f_memory)] := fun _ _ => by
    show List.Nodup _
    simp only [List.map_cons, List.map_nil, List.nodup_cons, List.mem_cons, List.not_mem_nil, or_false, not_or, not_false_eq_true, List.nodup_nil, and_true]
    omega
  obtain ⟨P, hPQ, hP⟩ : ∃ P : Int32 × mF × mF → Prop, (∀ (q : Int32) (q0 : mF) (q1 : mF), P (q, q0, q1) → Q (some q) (mH B (mE v [(b + 1, q0), (b + 3, q1)]) w)) ∧ P (FX3_waitForGuard f_reg f_memory) := ⟨fun res => Q (some res.1) (mH B (mE v [(b + 1, res.2.1), (b + 3, res.2.2)]) w), fun _ _ _ h => h, hQ⟩
  refine r_begin mt_58 (by intro a ha; simp only [List.mem_cons, List.not_mem_nil, or_false] at ha; rcases ha with rfl <;> rfl) (Nat.le_of_ble_eq_true rfl) ?_
  rw [FX3_waitForGuard] at hP
  rw [OX3_waitForGuard] at hO
  show RB _ _ _ _ [some (.ref b), none] [] _ _
  refine r_aload rfl ?_
  refine r_getr (q := b + 1) hB.1 hB.2.2.2.2.2.2.2.2.2.2.1 ?_
  refine r_int ?_
  refine r_ald (x := f_reg 4) 0 4 (hn _ _) rfl hB.2.1 (by decide) rfl (lt_in 4 20 rfl rfl) (lt_cl 4 rfl) rfl ?_
  refine r_istore (L' := [some (.ref b), some (.int (f_reg 4))]) rfl rfl ?_
  refine r_aload rfl ?_
  refine r_getr (q := b + 3) hB.1 hB.2.2.2.2.2.2.2.2.2.2.2.2.1 ?_
  refine r_iload rfl ?_
  refine r_int ?_
  obtain ⟨h1, hO⟩ := hO
  refine r_ast (y := (-1)) (env' := [(b + 1, f_reg), (b + 3, (upd f_memory ((f_reg 4 : Int32).toNatClampNeg) (-1)))]) 1 ((f_reg 4 : Int32).toNatClampNeg) (hn _ _) rfl hB.2.2.2.1 (by decide) rfl h1 rfl rfl rfl ?_
  generalize hg_g2 : upd f_memory ((f_reg 4 : Int32).toNatClampNeg) (-1) = g2 at hP hO ⊢
  try dsimp only at hP hO
  refine r_aload rfl ?_
  refine r_getr (q := b + 3) hB.1 hB.2.2.2.2.2.2.2.2.2.2.2.2.1 ?_
  refine r_iload rfl ?_
  refine r_int ?_
  refine r_isub ?_
  obtain ⟨h3, hO⟩ := hO
  refine r_ald (x := g2 (((f_reg 4) - 3 : Int32).toNatClampNeg)) 1 (((f_reg 4) - 3 : Int32).toNatClampNeg) (hn _ _) rfl hB.2.2.2.1 (by decide) rfl h3 rfl rfl ?_
  refine r_int ?_
  refine r_icmp (fun c4 : (g2 (((f_reg 4) - 3 : Int32).toNatClampNeg)) = (-4) => ?_) (fun c4 : ¬ ((g2 (((f_reg 4) - 3 : Int32).toNatClampNeg)) = (-4)) => ?_)
  · rw [if_pos c4] at hP
    have hO := hO.1 c4
    refine r_aload rfl ?_
    have k6 := fun (Q' : Option Int32 → mMH → Prop) hq => tX3_clear (d := d + 0) (B := B) (v := mE v [(b + 1, f_reg), (b + 3, g2)]) (w := w) (Q := Q') hB (by omega) f_reg hq
    generalize hg_u5 : FX3_clear f_reg = u5 at k6 hP
    try dsimp only at hP
    refine r_callV (st := []) (o := b) (as := []) (envc := [(b + 1, f_reg)]) (envc' := [(b + 1, u5.2)]) (env' := [(b + 1, u5.2), (b + 3, g2)]) (rv := none) [0] (hn _ _) rfl rfl (Nat.le_of_ble_eq_true rfl) hB.1 rfl rfl rfl k6 ?_
    show RB _ _ _ _ _ [] _ _
    refine r_int ?_
    exact r_ret rfl rfl (hPQ 1 u5.2 g2 hP)
  · rw [if_neg c4] at hP
    have hO := hO.2 c4
    refine r_aload rfl ?_
    refine r_getr (q := b + 3) hB.1 hB.2.2.2.2.2.2.2.2.2.2.2.2.1 ?_
    refine r_iload rfl ?_
    refine r_int ?_
    refine r_isub ?_
    refine r_int ?_
    obtain ⟨h7, hO⟩ := hO
    refine r_ast (y := (-3)) (env' := [(b + 1, f_reg), (b + 3, (upd g2 (((f_reg 4) - 3 : Int32).toNatClampNeg) (-3)))]) 1 (((f_reg 4) - 3 : Int32).toNatClampNeg) (hn _ _) rfl hB.2.2.2.1 (by decide) rfl h7 rfl rfl rfl ?_
    generalize hg_g8 : upd g2 (((f_reg 4) - 3 : Int32).toNatClampNeg) (-3) = g8 at hP hO ⊢
    try dsimp only at hP hO
    refine r_aload rfl ?_
    have h10 := hO
    have k13 := fun (Q' : Option Int32 → mMH → Prop) hq => tX3_goOff (d := d + 0) (B := B) (v := mE v [(b + 1, f_reg), (b + 3, g8)]) (w := w) (Q := Q') hB (by omega) f_reg g8 h10 hq
    generalize hg_u9 : FX3_goOff f_reg g8 = u9 at k13 hP
    try dsimp only at hP
    refine r_callV (st := []) (o := b) (as := []) (envc := [(b + 1, f_reg), (b + 3, g8)]) (envc' := [(b + 1, u9.2.1), (b + 3, u9.2.2)]) (env' := [(b + 1, u9.2.1), (b + 3, u9.2.2)]) (rv := none) [0, 1] (hn _ _) rfl rfl (Nat.le_of_ble_eq_true rfl) hB.1 rfl rfl rfl k13 ?_
    show RB _ _ _ _ _ [] _ _
    refine r_fall ?_
    refine r_aload rfl ?_
    have k12 := fun (Q' : Option Int32 → mMH → Prop) hq => tX3_clear (d := d + 0) (B := B) (v := mE v [(b + 1, u9.2.1), (b + 3, u9.2.2)]) (w := w) (Q := Q') hB (by omega) u9.2.1 hq
    generalize hg_u11 : FX3_clear u9.2.1 = u11 at k12 hP
    try dsimp only at hP
    refine r_callV (st := []) (o := b) (as := []) (envc := [(b + 1, u9.2.1)]) (envc' := [(b + 1, u11.2)]) (env' := [(b + 1, u11.2), (b + 3, u9.2.2)]) (rv := none) [0] (hn _ _) rfl rfl (Nat.le_of_ble_eq_true rfl) hB.1 rfl rfl rfl k12 ?_
    show RB _ _ _ _ _ [] _ _
    refine r_int ?_
    exact r_ret rfl rfl (hPQ 1 u11.2 u9.2.2 hP)

def FX3_waitForGuardOrTime_b5 (y1 : Int32) (y2 : Int32) (f_reg : mF) (f_memory : mF) (f_timers : mF) (f_timers_process : mF) (f_timers_time : mF) (f_timers_isBy : mF) : Int32 × mF × mF × mF × mF × mF × mF :=
  if y2 = 0 then (let g15 := upd f_memory ((y1 - 3 : Int32).toNatClampNeg) (-3); let u16 := FX3_goOff f_reg g15; let g19 := upd u16.2.2 ((y1 : Int32).toNatClampNeg) (-1); let u20 := FX3_clear u16.2.1; (1, u20.2, g19, f_timers, f_timers_process, f_timers_time, f_timers_isBy)) else (let u23 := FX3_own f_reg; let u25 := FX6_put u23 (f_memory ((y1 - 5 : Int32).toNatClampNeg)) 1 f_timers f_timers_process f_timers_time f_timers_isBy; let g28 := upd f_memory ((y1 - 3 : Int32).toNatClampNeg) (-3); let u29 := FX3_goOff f_reg g28; let g32 := upd u29.2.2 ((y1 : Int32).toNatClampNeg) (-1); let u33 := FX3_clear u29.2.1; (1, u33.2, g32, u25.2.1, u25.2.2.1, u25.2.2.2.1, u25.2.2.2.2))
def OX3_waitForGuardOrTime_b5 (y1 : Int32) (y2 : Int32) (f_reg : mF) (f_memory : mF) (f_timers : mF) (f_timers_process : mF) (f_timers_time : mF) (f_timers_isBy : mF) : Prop :=
  (y2 = 0 → (vp_in (y1 - 3) 96 ∧ (let g15 := upd f_memory ((y1 - 3 : Int32).toNatClampNeg) (-3); OX3_goOff f_reg g15 ∧ (let u16 := FX3_goOff f_reg g15; vp_in y1 96)))) ∧ (¬ (y2 = 0) → ((let u23 := FX3_own f_reg; vp_in (y1 - 5) 96 ∧ (OX6_put u23 (f_memory ((y1 - 5 : Int32).toNatClampNeg)) 1 f_timers f_timers_process f_timers_time f_timers_isBy ∧ (let u25 := FX6_put u23 (f_memory ((y1 - 5 : Int32).toNatClampNeg)) 1 f_timers f_timers_process f_timers_time f_timers_isBy; vp_in (y1 - 3) 96 ∧ (let g28 := upd f_memory ((y1 - 3 : Int32).toNatClampNeg) (-3); OX3_goOff f_reg g28 ∧ (let u29 := FX3_goOff f_reg g28; vp_in y1 96)))))))
set_option maxRecDepth 20000 in
theorem tX3_waitForGuardOrTime_b5 {d : Nat} {B : mB} {v : mV} {w : mX} {Q : Option Int32 → mMH → Prop} {b g : Nat} (hB : isMach B b g) (hd : g + 2 ≤ b) {P : Int32 × mF × mF × mF × mF × mF × mF → Prop} (hPQ : ∀ (q : Int32) (q0 : mF) (q1 : mF) (q2 : mF) (q3 : mF) (q4 : mF) (q5 : mF), P (q, q0, q1, q2, q3, q4, q5) → Q (some q) (mH B (mE v [(b + 1, q0), (b + 3, q1), (b + 4, q2), (b + 4 + 1, q3), (b + 4 + 2, q4), (b + 4 + 3, q5)]) w)) : ∀ (y1 : Int32) (y2 : Int32) (f_reg : mF) (f_memory : mF) (f_timers : mF) (f_timers_process : mF) (f_timers_time : mF) (f_timers_isBy : mF), OX3_waitForGuardOrTime_b5 y1 y2 f_reg f_memory f_timers f_timers_process f_timers_time f_timers_isBy → P (FX3_waitForGuardOrTime_b5 y1 y2 f_reg f_memory f_timers f_timers_process f_timers_time f_timers_isBy) → RJ (d + 2) kX3_waitForGuardOrTime (some .boolean) 5 [some (.ref b), some (.int y1), some (.int y2)] [] (mH B (mE v [(b + 1, f_reg), (b + 3, f_memory), (b + 4, f_timers), (b + 4 + 1, f_timers_process), (b + 4 + 2, f_timers_time), (b + 4 + 3, f_timers_isBy)]) w) Q := by
  intro y1 y2 f_reg f_memory f_timers f_timers_process f_timers_time f_timers_isBy hO hP
  rw [FX3_waitForGuardOrTime_b5] at hP
  rw [OX3_waitForGuardOrTime_b5] at hO
  have hn : ∀ (f_reg : mF) (f_memory : mF) (f_timers : mF) (f_timers_process : mF) (f_timers_time : mF) (f_timers_isBy : mF), mNd [(b + 1, f_reg), (b + 3, f_memory), (b + 4, f_timers), (b + 4 + 1, f_timers_process), (b + 4 + 2, f_timers_time), (b + 4 + 3, f_timers_isBy)] := fun _ _ _ _ _ _ => by
    show List.Nodup _
    simp only [List.map_cons, List.map_nil, List.nodup_cons, List.mem_cons, List.not_mem_nil, or_false, not_or, not_false_eq_true, List.nodup_nil, and_true]
    omega
  show RB _ _ _ _ [some (.ref b), some (.int y1), some (.int y2)] [] _ _
  refine r_iload rfl ?_
  refine r_if (fun c13 : y2 = 0 => ?_) (fun c13 : ¬ (y2 = 0) => ?_)
  · rw [if_pos c13] at hP
    have hO := hO.1 c13
    refine r_aload rfl ?_
    refine r_getr (q := b + 3) hB.1 hB.2.2.2.2.2.2.2.2.2.2.2.2.1 ?_
    refine r_iload rfl ?_
    refine r_int ?_
    refine r_isub ?_
    refine r_int ?_
    obtain ⟨h14, hO⟩ := hO
    refine r_ast (y := (-3)) (env' := [(b + 1, f_reg), (b + 3, (upd f_memory ((y1 - 3 : Int32).toNatClampNeg) (-3))), (b + 4, f_timers), (b + 4 + 1, f_timers_process), (b + 4 + 2, f_timers_time), (b + 4 + 3, f_timers_isBy)]) 1 ((y1 - 3 : Int32).toNatClampNeg) (hn _ _ _ _ _ _) rfl hB.2.2.2.1 (by decide) rfl h14 rfl rfl rfl ?_
    generalize hg_g15 : upd f_memory ((y1 - 3 : Int32).toNatClampNeg) (-3) = g15 at hP hO ⊢
    try dsimp only at hP hO
    refine r_aload rfl ?_
    obtain ⟨h17, hO⟩ := hO
    have k22 := fun (Q' : Option Int32 → mMH → Prop) hq => tX3_goOff (d := d + 1) (B := B) (v := mE v [(b + 1, f_reg), (b + 3, g15), (b + 4, f_timers), (b + 4 + 1, f_timers_process), (b + 4 + 2, f_timers_time), (b + 4 + 3, f_timers_isBy)]) (w := w) (Q := Q') hB (by omega) f_reg g15 h17 hq
    generalize hg_u16 : FX3_goOff f_reg g15 = u16 at k22 hP hO
    try dsimp only at hP hO
    refine r_callV (st := []) (o := b) (as := []) (envc := [(b + 1, f_reg), (b + 3, g15)]) (envc' := [(b + 1, u16.2.1), (b + 3, u16.2.2)]) (env' := [(b + 1, u16.2.1), (b + 3, u16.2.2), (b + 4, f_timers), (b + 4 + 1, f_timers_process), (b + 4 + 2, f_timers_time), (b + 4 + 3, f_timers_isBy)]) (rv := none) [0, 1] (hn _ _ _ _ _ _) rfl rfl (Nat.le_of_ble_eq_true rfl) hB.1 rfl rfl rfl k22 ?_
    show RB _ _ _ _ _ [] _ _
    refine r_fall ?_
    refine r_aload rfl ?_
    refine r_getr (q := b + 3) hB.1 hB.2.2.2.2.2.2.2.2.2.2.2.2.1 ?_
    refine r_iload rfl ?_
    refine r_int ?_
    have h18 := hO
    refine r_ast (y := (-1)) (env' := [(b + 1, u16.2.1), (b + 3, (upd u16.2.2 ((y1 : Int32).toNatClampNeg) (-1))), (b + 4, f_timers), (b + 4 + 1, f_timers_process), (b + 4 + 2, f_timers_time), (b + 4 + 3, f_timers_isBy)]) 1 ((y1 : Int32).toNatClampNeg) (hn _ _ _ _ _ _) rfl hB.2.2.2.1 (by decide) rfl h18 rfl rfl rfl ?_
    generalize hg_g19 : upd u16.2.2 ((y1 : Int32).toNatClampNeg) (-1) = g19 at hP ⊢
    try dsimp only at hP
    refine r_aload rfl ?_
    have k21 := fun (Q' : Option Int32 → mMH → Prop) hq => tX3_clear (d := d + 1) (B := B) (v := mE v [(b + 1, u16.2.1), (b + 3, g19), (b + 4, f_timers), (b + 4 + 1, f_timers_process), (b + 4 + 2, f_timers_time), (b + 4 + 3, f_timers_isBy)]) (w := w) (Q := Q') hB (by omega) u16.2.1 hq
    generalize hg_u20 : FX3_clear u16.2.1 = u20 at k21 hP
    try dsimp only at hP
    refine r_callV (st := []) (o := b) (as := []) (envc := [(b + 1, u16.2.1)]) (envc' := [(b + 1, u20.2)]) (env' := [(b + 1, u20.2), (b + 3, g19), (b + 4, f_timers), (b + 4 + 1, f_timers_process), (b + 4 + 2, f_timers_time), (b + 4 + 3, f_timers_isBy)]) (rv := none) [0] (hn _ _ _ _ _ _) rfl rfl (Nat.le_of_ble_eq_true rfl) hB.1 rfl rfl rfl k21 ?_
    show RB _ _ _ _ _ [] _ _
    refine r_int ?_
    exact r_ret rfl rfl (hPQ 1 u20.2 g19 f_timers f_timers_process f_timers_time f_timers_isBy hP)
  · rw [if_neg c13] at hP
    have hO := hO.2 c13
    refine r_aload rfl ?_
    refine r_getr (q := b + 4) hB.1 hB.2.2.2.2.2.2.2.2.2.2.2.2.2.1 ?_
    refine r_aload rfl ?_
    have k37 := fun (Q' : Option Int32 → mMH → Prop) hq => tX3_own (d := d + 1) (B := B) (v := mE v [(b + 1, f_reg), (b + 3, f_memory), (b + 4, f_timers), (b + 4 + 1, f_timers_process), (b + 4 + 2, f_timers_time), (b + 4 + 3, f_timers_isBy)]) (w := w) (Q := Q') hB (by omega) f_reg hq
    generalize hg_u23 : FX3_own f_reg = u23 at k37 hP hO
    try dsimp only at hP hO
    refine r_callV (st := [.ref (b + 4)]) (o := b) (as := []) (envc := [(b + 1, f_reg)]) (envc' := [(b + 1, f_reg)]) (env' := [(b + 1, f_reg), (b + 3, f_memory), (b + 4, f_timers), (b + 4 + 1, f_timers_process), (b + 4 + 2, f_timers_time), (b + 4 + 3, f_timers_isBy)]) (rv := some u23) [0] (hn _ _ _ _ _ _) rfl rfl (Nat.le_of_ble_eq_true rfl) hB.1 rfl rfl rfl k37 ?_
    show RB _ _ _ _ _ [.int u23, .ref (b + 4)] _ _
    refine r_aload rfl ?_
    refine r_getr (q := b + 3) hB.1 hB.2.2.2.2.2.2.2.2.2.2.2.2.1 ?_
    refine r_iload rfl ?_
    refine r_int ?_
    refine r_isub ?_
    obtain ⟨h24, hO⟩ := hO
    refine r_ald (x := f_memory ((y1 - 5 : Int32).toNatClampNeg)) 1 ((y1 - 5 : Int32).toNatClampNeg) (hn _ _ _ _ _ _) rfl hB.2.2.2.1 (by decide) rfl h24 rfl rfl ?_
    refine r_int ?_
    obtain ⟨h26, hO⟩ := hO
    have k36 := fun (Q' : Option Int32 → mMH → Prop) hq => tX6_put (d := d + 0) (B := B) (v := mE v [(b + 1, f_reg), (b + 3, f_memory), (b + 4, f_timers), (b + 4 + 1, f_timers_process), (b + 4 + 2, f_timers_time), (b + 4 + 3, f_timers_isBy)]) (w := w) (Q := Q') hB.2.2.2.2.2.1 u23 (f_memory ((y1 - 5 : Int32).toNatClampNeg)) 1 f_timers f_timers_process f_timers_time f_timers_isBy h26 hq
    generalize hg_u25 : FX6_put u23 (f_memory ((y1 - 5 : Int32).toNatClampNeg)) 1 f_timers f_timers_process f_timers_time f_timers_isBy = u25 at k36 hP hO
    try dsimp only at hP hO
    refine r_callV (st := []) (o := b + 4) (as := [.int u23, .int (f_memory ((y1 - 5 : Int32).toNatClampNeg)), .int 1]) (envc := [(b + 4, f_timers), (b + 4 + 1, f_timers_process), (b + 4 + 2, f_timers_time), (b + 4 + 3, f_timers_isBy)]) (envc' := [(b + 4, u25.2.1), (b + 4 + 1, u25.2.2.1), (b + 4 + 2, u25.2.2.2.1), (b + 4 + 3, u25.2.2.2.2)]) (env' := [(b + 1, f_reg), (b + 3, f_memory), (b + 4, u25.2.1), (b + 4 + 1, u25.2.2.1), (b + 4 + 2, u25.2.2.2.1), (b + 4 + 3, u25.2.2.2.2)]) (rv := none) [2, 3, 4, 5] (hn _ _ _ _ _ _) rfl rfl (Nat.le_of_ble_eq_true rfl) hB.2.2.2.2.2.1.1 rfl rfl rfl k36 ?_
    show RB _ _ _ _ _ [] _ _
    refine r_fall ?_
    refine r_aload rfl ?_
    refine r_getr (q := b + 3) hB.1 hB.2.2.2.2.2.2.2.2.2.2.2.2.1 ?_
    refine r_iload rfl ?_
    refine r_int ?_
    refine r_isub ?_
    refine r_int ?_
    obtain ⟨h27, hO⟩ := hO
    refine r_ast (y := (-3)) (env' := [(b + 1, f_reg), (b + 3, (upd f_memory ((y1 - 3 : Int32).toNatClampNeg) (-3))), (b + 4, u25.2.1), (b + 4 + 1, u25.2.2.1), (b + 4 + 2, u25.2.2.2.1), (b + 4 + 3, u25.2.2.2.2)]) 1 ((y1 - 3 : Int32).toNatClampNeg) (hn _ _ _ _ _ _) rfl hB.2.2.2.1 (by decide) rfl h27 rfl rfl rfl ?_
    generalize hg_g28 : upd f_memory ((y1 - 3 : Int32).toNatClampNeg) (-3) = g28 at hP hO ⊢
    try dsimp only at hP hO
    refine r_aload rfl ?_
    obtain ⟨h30, hO⟩ := hO
    have k35 := fun (Q' : Option Int32 → mMH → Prop) hq => tX3_goOff (d := d + 1) (B := B) (v := mE v [(b + 1, f_reg), (b + 3, g28), (b + 4, u25.2.1), (b + 4 + 1, u25.2.2.1), (b + 4 + 2, u25.2.2.2.1), (b + 4 + 3, u25.2.2.2.2)]) (w := w) (Q := Q') hB (by omega) f_reg g28 h30 hq
    generalize hg_u29 : FX3_goOff f_reg g28 = u29 at k35 hP hO
    try dsimp only at hP hO
    refine r_callV (st := []) (o := b) (as := []) (envc := [(b + 1, f_reg), (b + 3, g28)]) (envc' := [(b + 1, u29.2.1), (b + 3, u29.2.2)]) (env' := [(b + 1, u29.2.1), (b + 3, u29.2.2), (b + 4, u25.2.1), (b + 4 + 1, u25.2.2.1), (b + 4 + 2, u25.2.2.2.1), (b + 4 + 3, u25.2.2.2.2)]) (rv := none) [0, 1] (hn _ _ _ _ _ _) rfl rfl (Nat.le_of_ble_eq_true rfl) hB.1 rfl rfl rfl k35 ?_
    show RB _ _ _ _ _ [] _ _
    refine r_fall ?_
    refine r_aload rfl ?_
    refine r_getr (q := b + 3) hB.1 hB.2.2.2.2.2.2.2.2.2.2.2.2.1 ?_
    refine r_iload rfl ?_
    refine r_int ?_
    have h31 := hO
    refine r_ast (y := (-1)) (env' := [(b + 1, u29.2.1), (b + 3, (upd u29.2.2 ((y1 : Int32).toNatClampNeg) (-1))), (b + 4, u25.2.1), (b + 4 + 1, u25.2.2.1), (b + 4 + 2, u25.2.2.2.1), (b + 4 + 3, u25.2.2.2.2)]) 1 ((y1 : Int32).toNatClampNeg) (hn _ _ _ _ _ _) rfl hB.2.2.2.1 (by decide) rfl h31 rfl rfl rfl ?_
    generalize hg_g32 : upd u29.2.2 ((y1 : Int32).toNatClampNeg) (-1) = g32 at hP ⊢
    try dsimp only at hP
    refine r_aload rfl ?_
    have k34 := fun (Q' : Option Int32 → mMH → Prop) hq => tX3_clear (d := d + 1) (B := B) (v := mE v [(b + 1, u29.2.1), (b + 3, g32), (b + 4, u25.2.1), (b + 4 + 1, u25.2.2.1), (b + 4 + 2, u25.2.2.2.1), (b + 4 + 3, u25.2.2.2.2)]) (w := w) (Q := Q') hB (by omega) u29.2.1 hq
    generalize hg_u33 : FX3_clear u29.2.1 = u33 at k34 hP
    try dsimp only at hP
    refine r_callV (st := []) (o := b) (as := []) (envc := [(b + 1, u29.2.1)]) (envc' := [(b + 1, u33.2)]) (env' := [(b + 1, u33.2), (b + 3, g32), (b + 4, u25.2.1), (b + 4 + 1, u25.2.2.1), (b + 4 + 2, u25.2.2.2.1), (b + 4 + 3, u25.2.2.2.2)]) (rv := none) [0] (hn _ _ _ _ _ _) rfl rfl (Nat.le_of_ble_eq_true rfl) hB.1 rfl rfl rfl k34 ?_
    show RB _ _ _ _ _ [] _ _
    refine r_int ?_
    exact r_ret rfl rfl (hPQ 1 u33.2 g32 u25.2.1 u25.2.2.1 u25.2.2.2.1 u25.2.2.2.2 hP)
def FX3_waitForGuardOrTime_b2 (y1 : Int32) (z0 : Int32) (f_reg : mF) (f_memory : mF) (f_timers : mF) (f_timers_process : mF) (f_timers_time : mF) (f_timers_isBy : mF) : Int32 × mF × mF × mF × mF × mF × mF :=
  if z0 = 0 then (if (f_memory ((y1 - 3 : Int32).toNatClampNeg)) = (-4) then (let g7 := upd f_memory ((y1 - 4 : Int32).toNatClampNeg) (-5); let g9 := upd g7 ((y1 : Int32).toNatClampNeg) (-1); let u10 := FX3_clear f_reg; (1, u10.2, g9, f_timers, f_timers_process, f_timers_time, f_timers_isBy)) else (if z0 = 0 then (FX3_waitForGuardOrTime_b5 y1 z0 f_reg f_memory f_timers f_timers_process f_timers_time f_timers_isBy) else (let u38 := FX6_isFull f_timers; if u38 = 0 then (FX3_waitForGuardOrTime_b5 y1 z0 f_reg f_memory f_timers f_timers_process f_timers_time f_timers_isBy) else ((0, f_reg, f_memory, f_timers, f_timers_process, f_timers_time, f_timers_isBy))))) else (let u42 := FX9_isAfter (f_reg 18) (f_memory ((y1 - 5 : Int32).toNatClampNeg)); if u42 = 0 then (if (f_memory ((y1 - 3 : Int32).toNatClampNeg)) = (-4) then (let g47 := upd f_memory ((y1 - 4 : Int32).toNatClampNeg) (-5); let g49 := upd g47 ((y1 : Int32).toNatClampNeg) (-1); let u50 := FX3_clear f_reg; (1, u50.2, g49, f_timers, f_timers_process, f_timers_time, f_timers_isBy)) else (if z0 = 0 then (FX3_waitForGuardOrTime_b5 y1 z0 f_reg f_memory f_timers f_timers_process f_timers_time f_timers_isBy) else (let u53 := FX6_isFull f_timers; if u53 = 0 then (FX3_waitForGuardOrTime_b5 y1 z0 f_reg f_memory f_timers f_timers_process f_timers_time f_timers_isBy) else ((0, f_reg, f_memory, f_timers, f_timers_process, f_timers_time, f_timers_isBy))))) else (let g57 := upd f_memory ((y1 - 3 : Int32).toNatClampNeg) (-4); let g59 := upd g57 ((y1 - 5 : Int32).toNatClampNeg) (f_reg 18); let g61 := upd g59 ((y1 : Int32).toNatClampNeg) (-1); let u62 := FX3_clear f_reg; (1, u62.2, g61, f_timers, f_timers_process, f_timers_time, f_timers_isBy)))
def OX3_waitForGuardOrTime_b2 (y1 : Int32) (z0 : Int32) (f_reg : mF) (f_memory : mF) (f_timers : mF) (f_timers_process : mF) (f_timers_time : mF) (f_timers_isBy : mF) : Prop :=
  (z0 = 0 → (vp_in (y1 - 3) 96 ∧ (((f_memory ((y1 - 3 : Int32).toNatClampNeg)) = (-4) → (vp_in (y1 - 4) 96 ∧ (let g7 := upd f_memory ((y1 - 4 : Int32).toNatClampNeg) (-5); vp_in y1 96))) ∧ (¬ ((f_memory ((y1 - 3 : Int32).toNatClampNeg)) = (-4)) → ((z0 = 0 → (OX3_waitForGuardOrTime_b5 y1 z0 f_reg f_memory f_timers f_timers_process f_timers_time f_timers_isBy)) ∧ (¬ (z0 = 0) → ((let u38 := FX6_isFull f_timers; (u38 = 0 → (OX3_waitForGuardOrTime_b5 y1 z0 f_reg f_memory f_timers f_timers_process f_timers_time f_timers_isBy)) ∧ (¬ (u38 = 0) → True))))))))) ∧ (¬ (z0 = 0) → (vp_in (y1 - 5) 96 ∧ ((let u42 := FX9_isAfter (f_reg 18) (f_memory ((y1 - 5 : Int32).toNatClampNeg)); (u42 = 0 → (vp_in (y1 - 3) 96 ∧ (((f_memory ((y1 - 3 : Int32).toNatClampNeg)) = (-4) → (vp_in (y1 - 4) 96 ∧ (let g47 := upd f_memory ((y1 - 4 : Int32).toNatClampNeg) (-5); vp_in y1 96))) ∧ (¬ ((f_memory ((y1 - 3 : Int32).toNatClampNeg)) = (-4)) → ((z0 = 0 → (OX3_waitForGuardOrTime_b5 y1 z0 f_reg f_memory f_timers f_timers_process f_timers_time f_timers_isBy)) ∧ (¬ (z0 = 0) → ((let u53 := FX6_isFull f_timers; (u53 = 0 → (OX3_waitForGuardOrTime_b5 y1 z0 f_reg f_memory f_timers f_timers_process f_timers_time f_timers_isBy)) ∧ (¬ (u53 = 0) → True))))))))) ∧ (¬ (u42 = 0) → (vp_in (y1 - 3) 96 ∧ (let g57 := upd f_memory ((y1 - 3 : Int32).toNatClampNeg) (-4); vp_in (y1 - 5) 96 ∧ (let g59 := upd g57 ((y1 - 5 : Int32).toNatClampNeg) (f_reg 18); vp_in y1 96))))))))
set_option maxRecDepth 20000 in
theorem tX3_waitForGuardOrTime_b2 {d : Nat} {B : mB} {v : mV} {w : mX} {Q : Option Int32 → mMH → Prop} {b g : Nat} (hB : isMach B b g) (hd : g + 2 ≤ b) {P : Int32 × mF × mF × mF × mF × mF × mF → Prop} (hPQ : ∀ (q : Int32) (q0 : mF) (q1 : mF) (q2 : mF) (q3 : mF) (q4 : mF) (q5 : mF), P (q, q0, q1, q2, q3, q4, q5) → Q (some q) (mH B (mE v [(b + 1, q0), (b + 3, q1), (b + 4, q2), (b + 4 + 1, q3), (b + 4 + 2, q4), (b + 4 + 3, q5)]) w)) : ∀ (y1 : Int32) (z0 : Int32) (e2 : Option Value) (he2 : mC1 e2 = true) (f_reg : mF) (f_memory : mF) (f_timers : mF) (f_timers_process : mF) (f_timers_time : mF) (f_timers_isBy : mF), OX3_waitForGuardOrTime_b2 y1 z0 f_reg f_memory f_timers f_timers_process f_timers_time f_timers_isBy → P (FX3_waitForGuardOrTime_b2 y1 z0 f_reg f_memory f_timers f_timers_process f_timers_time f_timers_isBy) → RJ (d + 2) kX3_waitForGuardOrTime (some .boolean) 2 [some (.ref b), some (.int y1), e2] [.int z0] (mH B (mE v [(b + 1, f_reg), (b + 3, f_memory), (b + 4, f_timers), (b + 4 + 1, f_timers_process), (b + 4 + 2, f_timers_time), (b + 4 + 3, f_timers_isBy)]) w) Q := by
  intro y1 z0 e2 he2 f_reg f_memory f_timers f_timers_process f_timers_time f_timers_isBy hO hP
  rw [FX3_waitForGuardOrTime_b2] at hP
  rw [OX3_waitForGuardOrTime_b2] at hO
  have hn : ∀ (f_reg : mF) (f_memory : mF) (f_timers : mF) (f_timers_process : mF) (f_timers_time : mF) (f_timers_isBy : mF), mNd [(b + 1, f_reg), (b + 3, f_memory), (b + 4, f_timers), (b + 4 + 1, f_timers_process), (b + 4 + 2, f_timers_time), (b + 4 + 3, f_timers_isBy)] := fun _ _ _ _ _ _ => by
    show List.Nodup _
    simp only [List.map_cons, List.map_nil, List.nodup_cons, List.mem_cons, List.not_mem_nil, or_false, not_or, not_false_eq_true, List.nodup_nil, and_true]
    omega
  show RB _ _ _ _ [some (.ref b), some (.int y1), e2] [.int z0] _ _
  refine r_istore (L' := [some (.ref b), some (.int y1), some (.int z0)]) rfl rfl ?_
  refine r_iload rfl ?_
  refine r_if (fun c3 : z0 = 0 => ?_) (fun c3 : ¬ (z0 = 0) => ?_)
  · rw [if_pos c3] at hP
    have hO := hO.1 c3
    refine r_aload rfl ?_
    refine r_getr (q := b + 3) hB.1 hB.2.2.2.2.2.2.2.2.2.2.2.2.1 ?_
    refine r_iload rfl ?_
    refine r_int ?_
    refine r_isub ?_
    obtain ⟨h4, hO⟩ := hO
    refine r_ald (x := f_memory ((y1 - 3 : Int32).toNatClampNeg)) 1 ((y1 - 3 : Int32).toNatClampNeg) (hn _ _ _ _ _ _) rfl hB.2.2.2.1 (by decide) rfl h4 rfl rfl ?_
    refine r_int ?_
    refine r_icmp1 (fun c5 : (f_memory ((y1 - 3 : Int32).toNatClampNeg)) = (-4) => ?_) (fun c5 : ¬ ((f_memory ((y1 - 3 : Int32).toNatClampNeg)) = (-4)) => ?_)
    · rw [if_pos c5] at hP
      have hO := hO.1 c5
      refine r_aload rfl ?_
      refine r_getr (q := b + 3) hB.1 hB.2.2.2.2.2.2.2.2.2.2.2.2.1 ?_
      refine r_iload rfl ?_
      refine r_int ?_
      refine r_isub ?_
      refine r_int ?_
      obtain ⟨h6, hO⟩ := hO
      refine r_ast (y := (-5)) (env' := [(b + 1, f_reg), (b + 3, (upd f_memory ((y1 - 4 : Int32).toNatClampNeg) (-5))), (b + 4, f_timers), (b + 4 + 1, f_timers_process), (b + 4 + 2, f_timers_time), (b + 4 + 3, f_timers_isBy)]) 1 ((y1 - 4 : Int32).toNatClampNeg) (hn _ _ _ _ _ _) rfl hB.2.2.2.1 (by decide) rfl h6 rfl rfl rfl ?_
      generalize hg_g7 : upd f_memory ((y1 - 4 : Int32).toNatClampNeg) (-5) = g7 at hP hO ⊢
      try dsimp only at hP hO
      refine r_goto ?_
      refine r_aload rfl ?_
      refine r_getr (q := b + 3) hB.1 hB.2.2.2.2.2.2.2.2.2.2.2.2.1 ?_
      refine r_iload rfl ?_
      refine r_int ?_
      have h8 := hO
      refine r_ast (y := (-1)) (env' := [(b + 1, f_reg), (b + 3, (upd g7 ((y1 : Int32).toNatClampNeg) (-1))), (b + 4, f_timers), (b + 4 + 1, f_timers_process), (b + 4 + 2, f_timers_time), (b + 4 + 3, f_timers_isBy)]) 1 ((y1 : Int32).toNatClampNeg) (hn _ _ _ _ _ _) rfl hB.2.2.2.1 (by decide) rfl h8 rfl rfl rfl ?_
      generalize hg_g9 : upd g7 ((y1 : Int32).toNatClampNeg) (-1) = g9 at hP ⊢
      try dsimp only at hP
      refine r_aload rfl ?_
      have k11 := fun (Q' : Option Int32 → mMH → Prop) hq => tX3_clear (d := d + 1) (B := B) (v := mE v [(b + 1, f_reg), (b + 3, g9), (b + 4, f_timers), (b + 4 + 1, f_timers_process), (b + 4 + 2, f_timers_time), (b + 4 + 3, f_timers_isBy)]) (w := w) (Q := Q') hB (by omega) f_reg hq
      generalize hg_u10 : FX3_clear f_reg = u10 at k11 hP
      try dsimp only at hP
      refine r_callV (st := []) (o := b) (as := []) (envc := [(b + 1, f_reg)]) (envc' := [(b + 1, u10.2)]) (env' := [(b + 1, u10.2), (b + 3, g9), (b + 4, f_timers), (b + 4 + 1, f_timers_process), (b + 4 + 2, f_timers_time), (b + 4 + 3, f_timers_isBy)]) (rv := none) [0] (hn _ _ _ _ _ _) rfl rfl (Nat.le_of_ble_eq_true rfl) hB.1 rfl rfl rfl k11 ?_
      show RB _ _ _ _ _ [] _ _
      refine r_int ?_
      exact r_ret rfl rfl (hPQ 1 u10.2 g9 f_timers f_timers_process f_timers_time f_timers_isBy hP)
    · rw [if_neg c5] at hP
      have hO := hO.2 c5
      refine r_iload rfl ?_
      refine r_if (fun c12 : z0 = 0 => ?_) (fun c12 : ¬ (z0 = 0) => ?_)
      · rw [if_pos c12] at hP
        have hO := hO.1 c12
        exact tX3_waitForGuardOrTime_b5 hB hd hPQ y1 z0 f_reg f_memory f_timers f_timers_process f_timers_time f_timers_isBy hO hP
      · rw [if_neg c12] at hP
        have hO := hO.2 c12
        refine r_aload rfl ?_
        refine r_getr (q := b + 4) hB.1 hB.2.2.2.2.2.2.2.2.2.2.2.2.2.1 ?_
        have k40 := fun (Q' : Option Int32 → mMH → Prop) hq => tX6_isFull (d := d + 1) (B := B) (v := mE v [(b + 1, f_reg), (b + 3, f_memory), (b + 4, f_timers), (b + 4 + 1, f_timers_process), (b + 4 + 2, f_timers_time), (b + 4 + 3, f_timers_isBy)]) (w := w) (Q := Q') hB.2.2.2.2.2.1 f_timers hq
        generalize hg_u38 : FX6_isFull f_timers = u38 at k40 hP hO
        try dsimp only at hP hO
        refine r_callV (st := []) (o := b + 4) (as := []) (envc := [(b + 4, f_timers)]) (envc' := [(b + 4, f_timers)]) (env' := [(b + 1, f_reg), (b + 3, f_memory), (b + 4, f_timers), (b + 4 + 1, f_timers_process), (b + 4 + 2, f_timers_time), (b + 4 + 3, f_timers_isBy)]) (rv := some u38) [2] (hn _ _ _ _ _ _) rfl rfl (Nat.le_of_ble_eq_true rfl) hB.2.2.2.2.2.1.1 rfl rfl rfl k40 ?_
        show RB _ _ _ _ _ [.int u38] _ _
        refine r_if (fun c39 : u38 = 0 => ?_) (fun c39 : ¬ (u38 = 0) => ?_)
        · rw [if_pos c39] at hP
          have hO := hO.1 c39
          exact tX3_waitForGuardOrTime_b5 hB hd hPQ y1 z0 f_reg f_memory f_timers f_timers_process f_timers_time f_timers_isBy hO hP
        · rw [if_neg c39] at hP
          have hO := hO.2 c39
          refine r_int ?_
          exact r_ret rfl rfl (hPQ 0 f_reg f_memory f_timers f_timers_process f_timers_time f_timers_isBy hP)
  · rw [if_neg c3] at hP
    have hO := hO.2 c3
    refine r_aload rfl ?_
    refine r_getr (q := b + 1) hB.1 hB.2.2.2.2.2.2.2.2.2.2.1 ?_
    refine r_int ?_
    refine r_ald (x := f_reg 18) 0 18 (hn _ _ _ _ _ _) rfl hB.2.1 (by decide) rfl (lt_in 18 20 rfl rfl) (lt_cl 18 rfl) rfl ?_
    refine r_aload rfl ?_
    refine r_getr (q := b + 3) hB.1 hB.2.2.2.2.2.2.2.2.2.2.2.2.1 ?_
    refine r_iload rfl ?_
    refine r_int ?_
    refine r_isub ?_
    obtain ⟨h41, hO⟩ := hO
    refine r_ald (x := f_memory ((y1 - 5 : Int32).toNatClampNeg)) 1 ((y1 - 5 : Int32).toNatClampNeg) (hn _ _ _ _ _ _) rfl hB.2.2.2.1 (by decide) rfl h41 rfl rfl ?_
    have k64 := fun (Q' : Option Int32 → mMH → Prop) hq => tX9_isAfter (d := d + 1) (B := B) (v := mE v [(b + 1, f_reg), (b + 3, f_memory), (b + 4, f_timers), (b + 4 + 1, f_timers_process), (b + 4 + 2, f_timers_time), (b + 4 + 3, f_timers_isBy)]) (w := w) (Q := Q') (f_reg 18) (f_memory ((y1 - 5 : Int32).toNatClampNeg)) hq
    generalize hg_u42 : FX9_isAfter (f_reg 18) (f_memory ((y1 - 5 : Int32).toNatClampNeg)) = u42 at k64 hP hO
    try dsimp only at hP hO
    refine r_callS (st := []) (as := [.int (f_reg 18), .int (f_memory ((y1 - 5 : Int32).toNatClampNeg))]) (envc := []) (envc' := []) (env' := [(b + 1, f_reg), (b + 3, f_memory), (b + 4, f_timers), (b + 4 + 1, f_timers_process), (b + 4 + 2, f_timers_time), (b + 4 + 3, f_timers_isBy)]) (rv := some u42) [] (Or.inr rfl) (hn _ _ _ _ _ _) rfl rfl (Nat.le_of_ble_eq_true rfl) rfl rfl rfl k64 ?_
    show RB _ _ _ _ _ [.int u42] _ _
    refine r_if (fun c43 : u42 = 0 => ?_) (fun c43 : ¬ (u42 = 0) => ?_)
    · rw [if_pos c43] at hP
      have hO := hO.1 c43
      refine r_aload rfl ?_
      refine r_getr (q := b + 3) hB.1 hB.2.2.2.2.2.2.2.2.2.2.2.2.1 ?_
      refine r_iload rfl ?_
      refine r_int ?_
      refine r_isub ?_
      obtain ⟨h44, hO⟩ := hO
      refine r_ald (x := f_memory ((y1 - 3 : Int32).toNatClampNeg)) 1 ((y1 - 3 : Int32).toNatClampNeg) (hn _ _ _ _ _ _) rfl hB.2.2.2.1 (by decide) rfl h44 rfl rfl ?_
      refine r_int ?_
      refine r_icmp1 (fun c45 : (f_memory ((y1 - 3 : Int32).toNatClampNeg)) = (-4) => ?_) (fun c45 : ¬ ((f_memory ((y1 - 3 : Int32).toNatClampNeg)) = (-4)) => ?_)
      · rw [if_pos c45] at hP
        have hO := hO.1 c45
        refine r_aload rfl ?_
        refine r_getr (q := b + 3) hB.1 hB.2.2.2.2.2.2.2.2.2.2.2.2.1 ?_
        refine r_iload rfl ?_
        refine r_int ?_
        refine r_isub ?_
        refine r_int ?_
        obtain ⟨h46, hO⟩ := hO
        refine r_ast (y := (-5)) (env' := [(b + 1, f_reg), (b + 3, (upd f_memory ((y1 - 4 : Int32).toNatClampNeg) (-5))), (b + 4, f_timers), (b + 4 + 1, f_timers_process), (b + 4 + 2, f_timers_time), (b + 4 + 3, f_timers_isBy)]) 1 ((y1 - 4 : Int32).toNatClampNeg) (hn _ _ _ _ _ _) rfl hB.2.2.2.1 (by decide) rfl h46 rfl rfl rfl ?_
        generalize hg_g47 : upd f_memory ((y1 - 4 : Int32).toNatClampNeg) (-5) = g47 at hP hO ⊢
        try dsimp only at hP hO
        refine r_goto ?_
        refine r_aload rfl ?_
        refine r_getr (q := b + 3) hB.1 hB.2.2.2.2.2.2.2.2.2.2.2.2.1 ?_
        refine r_iload rfl ?_
        refine r_int ?_
        have h48 := hO
        refine r_ast (y := (-1)) (env' := [(b + 1, f_reg), (b + 3, (upd g47 ((y1 : Int32).toNatClampNeg) (-1))), (b + 4, f_timers), (b + 4 + 1, f_timers_process), (b + 4 + 2, f_timers_time), (b + 4 + 3, f_timers_isBy)]) 1 ((y1 : Int32).toNatClampNeg) (hn _ _ _ _ _ _) rfl hB.2.2.2.1 (by decide) rfl h48 rfl rfl rfl ?_
        generalize hg_g49 : upd g47 ((y1 : Int32).toNatClampNeg) (-1) = g49 at hP ⊢
        try dsimp only at hP
        refine r_aload rfl ?_
        have k51 := fun (Q' : Option Int32 → mMH → Prop) hq => tX3_clear (d := d + 1) (B := B) (v := mE v [(b + 1, f_reg), (b + 3, g49), (b + 4, f_timers), (b + 4 + 1, f_timers_process), (b + 4 + 2, f_timers_time), (b + 4 + 3, f_timers_isBy)]) (w := w) (Q := Q') hB (by omega) f_reg hq
        generalize hg_u50 : FX3_clear f_reg = u50 at k51 hP
        try dsimp only at hP
        refine r_callV (st := []) (o := b) (as := []) (envc := [(b + 1, f_reg)]) (envc' := [(b + 1, u50.2)]) (env' := [(b + 1, u50.2), (b + 3, g49), (b + 4, f_timers), (b + 4 + 1, f_timers_process), (b + 4 + 2, f_timers_time), (b + 4 + 3, f_timers_isBy)]) (rv := none) [0] (hn _ _ _ _ _ _) rfl rfl (Nat.le_of_ble_eq_true rfl) hB.1 rfl rfl rfl k51 ?_
        show RB _ _ _ _ _ [] _ _
        refine r_int ?_
        exact r_ret rfl rfl (hPQ 1 u50.2 g49 f_timers f_timers_process f_timers_time f_timers_isBy hP)
      · rw [if_neg c45] at hP
        have hO := hO.2 c45
        refine r_iload rfl ?_
        refine r_if (fun c52 : z0 = 0 => ?_) (fun c52 : ¬ (z0 = 0) => ?_)
        · rw [if_pos c52] at hP
          have hO := hO.1 c52
          exact tX3_waitForGuardOrTime_b5 hB hd hPQ y1 z0 f_reg f_memory f_timers f_timers_process f_timers_time f_timers_isBy hO hP
        · rw [if_neg c52] at hP
          have hO := hO.2 c52
          refine r_aload rfl ?_
          refine r_getr (q := b + 4) hB.1 hB.2.2.2.2.2.2.2.2.2.2.2.2.2.1 ?_
          have k55 := fun (Q' : Option Int32 → mMH → Prop) hq => tX6_isFull (d := d + 1) (B := B) (v := mE v [(b + 1, f_reg), (b + 3, f_memory), (b + 4, f_timers), (b + 4 + 1, f_timers_process), (b + 4 + 2, f_timers_time), (b + 4 + 3, f_timers_isBy)]) (w := w) (Q := Q') hB.2.2.2.2.2.1 f_timers hq
          generalize hg_u53 : FX6_isFull f_timers = u53 at k55 hP hO
          try dsimp only at hP hO
          refine r_callV (st := []) (o := b + 4) (as := []) (envc := [(b + 4, f_timers)]) (envc' := [(b + 4, f_timers)]) (env' := [(b + 1, f_reg), (b + 3, f_memory), (b + 4, f_timers), (b + 4 + 1, f_timers_process), (b + 4 + 2, f_timers_time), (b + 4 + 3, f_timers_isBy)]) (rv := some u53) [2] (hn _ _ _ _ _ _) rfl rfl (Nat.le_of_ble_eq_true rfl) hB.2.2.2.2.2.1.1 rfl rfl rfl k55 ?_
          show RB _ _ _ _ _ [.int u53] _ _
          refine r_if (fun c54 : u53 = 0 => ?_) (fun c54 : ¬ (u53 = 0) => ?_)
          · rw [if_pos c54] at hP
            have hO := hO.1 c54
            exact tX3_waitForGuardOrTime_b5 hB hd hPQ y1 z0 f_reg f_memory f_timers f_timers_process f_timers_time f_timers_isBy hO hP
          · rw [if_neg c54] at hP
            have hO := hO.2 c54
            refine r_int ?_
            exact r_ret rfl rfl (hPQ 0 f_reg f_memory f_timers f_timers_process f_timers_time f_timers_isBy hP)
    · rw [if_neg c43] at hP
      have hO := hO.2 c43
      refine r_aload rfl ?_
      refine r_getr (q := b + 3) hB.1 hB.2.2.2.2.2.2.2.2.2.2.2.2.1 ?_
      refine r_iload rfl ?_
      refine r_int ?_
      refine r_isub ?_
      refine r_int ?_
      obtain ⟨h56, hO⟩ := hO
      refine r_ast (y := (-4)) (env' := [(b + 1, f_reg), (b + 3, (upd f_memory ((y1 - 3 : Int32).toNatClampNeg) (-4))), (b + 4, f_timers), (b + 4 + 1, f_timers_process), (b + 4 + 2, f_timers_time), (b + 4 + 3, f_timers_isBy)]) 1 ((y1 - 3 : Int32).toNatClampNeg) (hn _ _ _ _ _ _) rfl hB.2.2.2.1 (by decide) rfl h56 rfl rfl rfl ?_
      generalize hg_g57 : upd f_memory ((y1 - 3 : Int32).toNatClampNeg) (-4) = g57 at hP hO ⊢
      try dsimp only at hP hO
      refine r_aload rfl ?_
      refine r_getr (q := b + 3) hB.1 hB.2.2.2.2.2.2.2.2.2.2.2.2.1 ?_
      refine r_iload rfl ?_
      refine r_int ?_
      refine r_isub ?_
      refine r_aload rfl ?_
      refine r_getr (q := b + 1) hB.1 hB.2.2.2.2.2.2.2.2.2.2.1 ?_
      refine r_int ?_
      refine r_ald (x := f_reg 18) 0 18 (hn _ _ _ _ _ _) rfl hB.2.1 (by decide) rfl (lt_in 18 20 rfl rfl) (lt_cl 18 rfl) rfl ?_
      obtain ⟨h58, hO⟩ := hO
      refine r_ast (y := f_reg 18) (env' := [(b + 1, f_reg), (b + 3, (upd g57 ((y1 - 5 : Int32).toNatClampNeg) (f_reg 18))), (b + 4, f_timers), (b + 4 + 1, f_timers_process), (b + 4 + 2, f_timers_time), (b + 4 + 3, f_timers_isBy)]) 1 ((y1 - 5 : Int32).toNatClampNeg) (hn _ _ _ _ _ _) rfl hB.2.2.2.1 (by decide) rfl h58 rfl rfl rfl ?_
      generalize hg_g59 : upd g57 ((y1 - 5 : Int32).toNatClampNeg) (f_reg 18) = g59 at hP hO ⊢
      try dsimp only at hP hO
      refine r_goto ?_
      refine r_aload rfl ?_
      refine r_getr (q := b + 3) hB.1 hB.2.2.2.2.2.2.2.2.2.2.2.2.1 ?_
      refine r_iload rfl ?_
      refine r_int ?_
      have h60 := hO
      refine r_ast (y := (-1)) (env' := [(b + 1, f_reg), (b + 3, (upd g59 ((y1 : Int32).toNatClampNeg) (-1))), (b + 4, f_timers), (b + 4 + 1, f_timers_process), (b + 4 + 2, f_timers_time), (b + 4 + 3, f_timers_isBy)]) 1 ((y1 : Int32).toNatClampNeg) (hn _ _ _ _ _ _) rfl hB.2.2.2.1 (by decide) rfl h60 rfl rfl rfl ?_
      generalize hg_g61 : upd g59 ((y1 : Int32).toNatClampNeg) (-1) = g61 at hP ⊢
      try dsimp only at hP
      refine r_aload rfl ?_
      have k63 := fun (Q' : Option Int32 → mMH → Prop) hq => tX3_clear (d := d + 1) (B := B) (v := mE v [(b + 1, f_reg), (b + 3, g61), (b + 4, f_timers), (b + 4 + 1, f_timers_process), (b + 4 + 2, f_timers_time), (b + 4 + 3, f_timers_isBy)]) (w := w) (Q := Q') hB (by omega) f_reg hq
      generalize hg_u62 : FX3_clear f_reg = u62 at k63 hP
      try dsimp only at hP
      refine r_callV (st := []) (o := b) (as := []) (envc := [(b + 1, f_reg)]) (envc' := [(b + 1, u62.2)]) (env' := [(b + 1, u62.2), (b + 3, g61), (b + 4, f_timers), (b + 4 + 1, f_timers_process), (b + 4 + 2, f_timers_time), (b + 4 + 3, f_timers_isBy)]) (rv := none) [0] (hn _ _ _ _ _ _) rfl rfl (Nat.le_of_ble_eq_true rfl) hB.1 rfl rfl rfl k63 ?_
      show RB _ _ _ _ _ [] _ _
      refine r_int ?_
      exact r_ret rfl rfl (hPQ 1 u62.2 g61 f_timers f_timers_process f_timers_time f_timers_isBy hP)
def FX3_waitForGuardOrTime (f_reg : mF) (f_memory : mF) (f_timers : mF) (f_timers_process : mF) (f_timers_time : mF) (f_timers_isBy : mF) : Int32 × mF × mF × mF × mF × mF × mF :=
  if (f_memory (((f_reg 4) - 4 : Int32).toNatClampNeg)) = (-6) then (FX3_waitForGuardOrTime_b2 (f_reg 4) 1 f_reg f_memory f_timers f_timers_process f_timers_time f_timers_isBy) else (FX3_waitForGuardOrTime_b2 (f_reg 4) 0 f_reg f_memory f_timers f_timers_process f_timers_time f_timers_isBy)
def OX3_waitForGuardOrTime (f_reg : mF) (f_memory : mF) (f_timers : mF) (f_timers_process : mF) (f_timers_time : mF) (f_timers_isBy : mF) : Prop :=
  vp_in ((f_reg 4) - 4) 96 ∧ (((f_memory (((f_reg 4) - 4 : Int32).toNatClampNeg)) = (-6) → (OX3_waitForGuardOrTime_b2 (f_reg 4) 1 f_reg f_memory f_timers f_timers_process f_timers_time f_timers_isBy)) ∧ (¬ ((f_memory (((f_reg 4) - 4 : Int32).toNatClampNeg)) = (-6)) → (OX3_waitForGuardOrTime_b2 (f_reg 4) 0 f_reg f_memory f_timers f_timers_process f_timers_time f_timers_isBy)))
set_option maxRecDepth 20000 in
theorem tX3_waitForGuardOrTime {d : Nat} {B : mB} {v : mV} {w : mX} {Q : Option Int32 → mMH → Prop} {b g : Nat} (hB : isMach B b g) (hd : g + 2 ≤ b) (f_reg : mF) (f_memory : mF) (f_timers : mF) (f_timers_process : mF) (f_timers_time : mF) (f_timers_isBy : mF) (hO : OX3_waitForGuardOrTime f_reg f_memory f_timers f_timers_process f_timers_time f_timers_isBy) (hQ : Q (some ((FX3_waitForGuardOrTime f_reg f_memory f_timers f_timers_process f_timers_time f_timers_isBy).1)) (mH B (mE v [(b + 1, (FX3_waitForGuardOrTime f_reg f_memory f_timers f_timers_process f_timers_time f_timers_isBy).2.1), (b + 3, (FX3_waitForGuardOrTime f_reg f_memory f_timers f_timers_process f_timers_time f_timers_isBy).2.2.1), (b + 4, (FX3_waitForGuardOrTime f_reg f_memory f_timers f_timers_process f_timers_time f_timers_isBy).2.2.2.1), (b + 4 + 1, (FX3_waitForGuardOrTime f_reg f_memory f_timers f_timers_process f_timers_time f_timers_isBy).2.2.2.2.1), (b + 4 + 2, (FX3_waitForGuardOrTime f_reg f_memory f_timers f_timers_process f_timers_time f_timers_isBy).2.2.2.2.2.1), (b + 4 + 3, (FX3_waitForGuardOrTime f_reg f_memory f_timers f_timers_process f_timers_time f_timers_isBy).2.2.2.2.2.2)]) w)) : CQ (d + 3) 59 [.ref b] (mH B (mE v [(b + 1, f_reg), (b + 3, f_memory), (b + 4, f_timers), (b + 4 + 1, f_timers_process), (b + 4 + 2, f_timers_time), (b + 4 + 3, f_timers_isBy)]) w) Q := by
  have hn : ∀ (f_reg : mF) (f_memory : mF) (f_timers : mF) (f_timers_process : mF) (f_timers_time : mF) (f_timers_isBy : mF), mNd [(b + 1, f_reg), (b + 3, f_memory), (b + 4, f_timers), (b + 4 + 1, f_timers_process), (b + 4 + 2, f_timers_time), (b + 4 + 3, f_timers_isBy)] := fun _ _ _ _ _ _ => by
    show List.Nodup _
    simp only [List.map_cons, List.map_nil, List.nodup_cons, List.mem_cons, List.not_mem_nil, or_false, not_or, not_false_eq_true, List.nodup_nil, and_true]
    omega
  obtain ⟨P, hPQ, hP⟩ : ∃ P : Int32 × mF × mF × mF × mF × mF × mF → Prop, (∀ (q : Int32) (q0 : mF) (q1 : mF) (q2 : mF) (q3 : mF) (q4 : mF) (q5 : mF), P (q, q0, q1, q2, q3, q4, q5) → Q (some q) (mH B (mE v [(b + 1, q0), (b + 3, q1), (b + 4, q2), (b + 4 + 1, q3), (b + 4 + 2, q4), (b + 4 + 3, q5)]) w)) ∧ P (FX3_waitForGuardOrTime f_reg f_memory f_timers f_timers_process f_timers_time f_timers_isBy) := ⟨fun res => Q (some res.1) (mH B (mE v [(b + 1, res.2.1), (b + 3, res.2.2.1), (b + 4, res.2.2.2.1), (b + 4 + 1, res.2.2.2.2.1), (b + 4 + 2, res.2.2.2.2.2.1), (b + 4 + 3, res.2.2.2.2.2.2)]) w), fun _ _ _ _ _ _ _ h => h, hQ⟩
  refine r_begin mt_59 (by intro a ha; simp only [List.mem_cons, List.not_mem_nil, or_false] at ha; rcases ha with rfl <;> rfl) (Nat.le_of_ble_eq_true rfl) ?_
  rw [FX3_waitForGuardOrTime] at hP
  rw [OX3_waitForGuardOrTime] at hO
  show RB _ _ _ _ [some (.ref b), none, none] [] _ _
  refine r_aload rfl ?_
  refine r_getr (q := b + 1) hB.1 hB.2.2.2.2.2.2.2.2.2.2.1 ?_
  refine r_int ?_
  refine r_ald (x := f_reg 4) 0 4 (hn _ _ _ _ _ _) rfl hB.2.1 (by decide) rfl (lt_in 4 20 rfl rfl) (lt_cl 4 rfl) rfl ?_
  refine r_istore (L' := [some (.ref b), some (.int (f_reg 4)), none]) rfl rfl ?_
  refine r_aload rfl ?_
  refine r_getr (q := b + 3) hB.1 hB.2.2.2.2.2.2.2.2.2.2.2.2.1 ?_
  refine r_iload rfl ?_
  refine r_int ?_
  refine r_isub ?_
  obtain ⟨h1, hO⟩ := hO
  refine r_ald (x := f_memory (((f_reg 4) - 4 : Int32).toNatClampNeg)) 1 (((f_reg 4) - 4 : Int32).toNatClampNeg) (hn _ _ _ _ _ _) rfl hB.2.2.2.1 (by decide) rfl h1 rfl rfl ?_
  refine r_int ?_
  refine r_icmp1 (fun c2 : (f_memory (((f_reg 4) - 4 : Int32).toNatClampNeg)) = (-6) => ?_) (fun c2 : ¬ ((f_memory (((f_reg 4) - 4 : Int32).toNatClampNeg)) = (-6)) => ?_)
  · rw [if_pos c2] at hP
    have hO := hO.1 c2
    refine r_int ?_
    refine r_goto ?_
    exact tX3_waitForGuardOrTime_b2 hB hd hPQ (f_reg 4) 1 none rfl f_reg f_memory f_timers f_timers_process f_timers_time f_timers_isBy hO hP
  · rw [if_neg c2] at hP
    have hO := hO.2 c2
    refine r_int ?_
    refine r_fall ?_
    exact tX3_waitForGuardOrTime_b2 hB hd hPQ (f_reg 4) 0 none rfl f_reg f_memory f_timers f_timers_process f_timers_time f_timers_isBy hO hP

def FX3_isChannelIn (x0 : Int32) : Int32 :=
  let u1 := FX9_isPlace x0; if u1 = 0 then (0) else (if x0 < 2 then (0) else (1))
set_option maxRecDepth 20000 in
theorem tX3_isChannelIn {d : Nat} {B : mB} {v : mV} {w : mX} {Q : Option Int32 → mMH → Prop} (x0 : Int32) (hQ : Q (some (FX3_isChannelIn x0)) (mH B (mE v []) w)) : CQ (d + 2) 63 [.int x0] (mH B (mE v []) w) Q := by
  obtain ⟨P, hPQ, hP⟩ : ∃ P : Int32 → Prop, (∀ (q : Int32), P q → Q (some q) (mH B (mE v []) w)) ∧ P (FX3_isChannelIn x0) := ⟨fun res => Q (some res) (mH B (mE v []) w), fun _ h => h, hQ⟩
  refine r_begin mt_63 (by intro a ha; simp only [List.mem_cons, List.not_mem_nil, or_false] at ha; rcases ha with rfl <;> rfl) (Nat.le_of_ble_eq_true rfl) ?_
  rw [FX3_isChannelIn] at hP
  show RB _ _ _ _ [some (.int x0)] [] _ _
  refine r_iload rfl ?_
  have k4 := fun (Q' : Option Int32 → mMH → Prop) hq => tX9_isPlace (d := d + 0) (B := B) (v := mE v []) (w := w) (Q := Q') x0 hq
  generalize hg_u1 : FX9_isPlace x0 = u1 at k4 hP
  try dsimp only at hP
  refine r_callS (st := []) (as := [.int x0]) (envc := []) (envc' := []) (env' := []) (rv := some u1) [] (Or.inr rfl) (show mNd [] from List.nodup_nil) rfl rfl (Nat.le_of_ble_eq_true rfl) rfl rfl rfl k4 ?_
  show RB _ _ _ _ _ [.int u1] _ _
  refine r_if (fun c2 : u1 = 0 => ?_) (fun c2 : ¬ (u1 = 0) => ?_)
  · rw [if_pos c2] at hP
    refine r_int ?_
    refine r_fall ?_
    exact r_ret rfl rfl (hPQ 0 hP)
  · rw [if_neg c2] at hP
    refine r_iload rfl ?_
    refine r_int ?_
    refine r_icmp (fun c3 : x0 < 2 => ?_) (fun c3 : ¬ (x0 < 2) => ?_)
    · rw [if_pos c3] at hP
      refine r_int ?_
      refine r_fall ?_
      exact r_ret rfl rfl (hPQ 0 hP)
    · rw [if_neg c3] at hP
      refine r_int ?_
      refine r_goto ?_
      exact r_ret rfl rfl (hPQ 1 hP)

def FX3_enableLink (f_reg : mF) (f_memory : mF) (f_lnk : mF) : Int32 × mF × mF :=
  if (f_lnk 7) = 0 then (let u2 := FX3_own f_reg; (0, f_memory, (upd f_lnk 9 u2))) else (let g5 := upd f_memory (((f_reg 4) - 3 : Int32).toNatClampNeg) (-4); (0, g5, f_lnk))
def OX3_enableLink (f_reg : mF) (f_memory : mF) (f_lnk : mF) : Prop :=
  ((f_lnk 7) = 0 → True) ∧ (¬ ((f_lnk 7) = 0) → (vp_in ((f_reg 4) - 3) 96))
set_option maxRecDepth 20000 in
theorem tX3_enableLink {d : Nat} {B : mB} {v : mV} {w : mX} {Q : Option Int32 → mMH → Prop} {b g a : Nat} (hB : isMach B b g) (hd : g + 2 ≤ b) (hL : isLnk B a) (ha : a = b + 9 ∨ a = b + 10) (f_reg : mF) (f_memory : mF) (f_lnk : mF) (hO : OX3_enableLink f_reg f_memory f_lnk) (hQ : Q (none) (mH B (mE v [(b + 1, f_reg), (b + 3, (FX3_enableLink f_reg f_memory f_lnk).2.1), (a, (FX3_enableLink f_reg f_memory f_lnk).2.2)]) w)) : CQ (d + 2) 61 [.ref b, .ref a] (mH B (mE v [(b + 1, f_reg), (b + 3, f_memory), (a, f_lnk)]) w) Q := by
  have hn : ∀ (f_reg : mF) (f_memory : mF) (f_lnk : mF), mNd [(b + 1, f_reg), (b + 3, f_memory), (a, f_lnk)] := fun _ _ _ => by
    show List.Nodup _
    simp only [List.map_cons, List.map_nil, List.nodup_cons, List.mem_cons, List.not_mem_nil, or_false, not_or, not_false_eq_true, List.nodup_nil, and_true]
    omega
  obtain ⟨P, hPQ, hP⟩ : ∃ P : Int32 × mF × mF → Prop, (∀ (q : Int32) (q0 : mF) (q1 : mF), P (q, q0, q1) → Q (none) (mH B (mE v [(b + 1, f_reg), (b + 3, q0), (a, q1)]) w)) ∧ P (FX3_enableLink f_reg f_memory f_lnk) := ⟨fun res => Q (none) (mH B (mE v [(b + 1, f_reg), (b + 3, res.2.1), (a, res.2.2)]) w), fun _ _ _ h => h, hQ⟩
  refine r_begin mt_61 (by intro a ha; simp only [List.mem_cons, List.not_mem_nil, or_false] at ha; rcases ha with rfl | rfl <;> rfl) (Nat.le_of_ble_eq_true rfl) ?_
  rw [FX3_enableLink] at hP
  rw [OX3_enableLink] at hO
  show RB _ _ _ _ [some (.ref b), some (.ref a)] [] _ _
  refine r_aload rfl ?_
  refine r_get (x := f_lnk 7) 2 (hn _ _ _) rfl hL (by decide) rfl ?_
  refine r_if (fun c1 : (f_lnk 7) = 0 => ?_) (fun c1 : ¬ ((f_lnk 7) = 0) => ?_)
  · rw [if_pos c1] at hP
    have hO := hO.1 c1
    refine r_aload rfl ?_
    refine r_aload rfl ?_
    have k3 := fun (Q' : Option Int32 → mMH → Prop) hq => tX3_own (d := d + 0) (B := B) (v := mE v [(b + 1, f_reg), (b + 3, f_memory), (a, f_lnk)]) (w := w) (Q := Q') hB (by omega) f_reg hq
    generalize hg_u2 : FX3_own f_reg = u2 at k3 hP
    try dsimp only at hP
    refine r_callV (st := [.ref a]) (o := b) (as := []) (envc := [(b + 1, f_reg)]) (envc' := [(b + 1, f_reg)]) (env' := [(b + 1, f_reg), (b + 3, f_memory), (a, f_lnk)]) (rv := some u2) [0] (hn _ _ _) rfl rfl (Nat.le_of_ble_eq_true rfl) hB.1 rfl rfl rfl k3 ?_
    show RB _ _ _ _ _ [.int u2, .ref a] _ _
    refine r_put (env' := [(b + 1, f_reg), (b + 3, f_memory), (a, (upd f_lnk 9 u2))]) 2 (hn _ _ _) rfl rfl hL ?_
    refine r_fall ?_
    exact r_retv rfl (hPQ 0 f_memory (upd f_lnk 9 u2) hP)
  · rw [if_neg c1] at hP
    have hO := hO.2 c1
    refine r_aload rfl ?_
    refine r_getr (q := b + 3) hB.1 hB.2.2.2.2.2.2.2.2.2.2.2.2.1 ?_
    refine r_aload rfl ?_
    refine r_getr (q := b + 1) hB.1 hB.2.2.2.2.2.2.2.2.2.2.1 ?_
    refine r_int ?_
    refine r_ald (x := f_reg 4) 0 4 (hn _ _ _) rfl hB.2.1 (by decide) rfl (lt_in 4 20 rfl rfl) (lt_cl 4 rfl) rfl ?_
    refine r_int ?_
    refine r_isub ?_
    refine r_int ?_
    have h4 := hO
    refine r_ast (y := (-4)) (env' := [(b + 1, f_reg), (b + 3, (upd f_memory (((f_reg 4) - 3 : Int32).toNatClampNeg) (-4))), (a, f_lnk)]) 1 (((f_reg 4) - 3 : Int32).toNatClampNeg) (hn _ _ _) rfl hB.2.2.2.1 (by decide) rfl h4 rfl rfl rfl ?_
    generalize hg_g5 : upd f_memory (((f_reg 4) - 3 : Int32).toNatClampNeg) (-4) = g5 at hP ⊢
    try dsimp only at hP
    refine r_goto ?_
    exact r_retv rfl (hPQ 0 g5 f_lnk hP)

def FX3_enableChannel (f_reg : mF) (f_memory : mF) (f_links_0 : mF) (f_links_1 : mF) : Int32 × mF × mF × mF × mF :=
  if (f_reg 0) = 0 then ((1, (upd f_reg 1 (f_reg 2)), f_memory, f_links_0, f_links_1)) else (let u2 := FX3_isChannelIn (f_reg 1); if u2 = 0 then ((0, f_reg, f_memory, f_links_0, f_links_1)) else (if 4 ≤ (f_reg 1) then (if (f_memory ((f_reg 1 : Int32).toNatClampNeg)) = (-1) then (let u7 := FX3_own f_reg; let g9 := upd f_memory ((f_reg 1 : Int32).toNatClampNeg) u7; (1, (upd f_reg 1 (f_reg 2)), g9, f_links_0, f_links_1)) else (let u12 := FX3_own f_reg; if (f_memory ((f_reg 1 : Int32).toNatClampNeg)) = u12 then ((1, (upd f_reg 1 (f_reg 2)), f_memory, f_links_0, f_links_1)) else (let g15 := upd f_memory (((f_reg 4) - 3 : Int32).toNatClampNeg) (-4); (1, (upd f_reg 1 (f_reg 2)), g15, f_links_0, f_links_1)))) else (if ((f_reg 1) - 2) = 0 then (let u19 := FX3_enableLink f_reg f_memory f_links_0; (1, (upd f_reg 1 (f_reg 2)), u19.2.1, u19.2.2, f_links_1)) else (let u22 := FX3_enableLink f_reg f_memory f_links_1; (1, (upd f_reg 1 (f_reg 2)), u22.2.1, f_links_0, u22.2.2)))))
def OX3_enableChannel (f_reg : mF) (f_memory : mF) (f_links_0 : mF) (f_links_1 : mF) : Prop :=
  ((f_reg 0) = 0 → True) ∧ (¬ ((f_reg 0) = 0) → ((let u2 := FX3_isChannelIn (f_reg 1); (u2 = 0 → True) ∧ (¬ (u2 = 0) → ((4 ≤ (f_reg 1) → (vp_in (f_reg 1) 96 ∧ (((f_memory ((f_reg 1 : Int32).toNatClampNeg)) = (-1) → ((let u7 := FX3_own f_reg; vp_in (f_reg 1) 96))) ∧ (¬ ((f_memory ((f_reg 1 : Int32).toNatClampNeg)) = (-1)) → (vp_in (f_reg 1) 96 ∧ ((let u12 := FX3_own f_reg; ((f_memory ((f_reg 1 : Int32).toNatClampNeg)) = u12 → True) ∧ (¬ ((f_memory ((f_reg 1 : Int32).toNatClampNeg)) = u12) → (vp_in ((f_reg 4) - 3) 96))))))))) ∧ (¬ (4 ≤ (f_reg 1)) → (vp_in ((f_reg 1) - 2) 2 ∧ (((f_reg 1) - 2) = 0 → (OX3_enableLink f_reg f_memory f_links_0)) ∧ (¬ (((f_reg 1) - 2) = 0) → (OX3_enableLink f_reg f_memory f_links_1)))))))))
set_option maxRecDepth 20000 in
theorem tX3_enableChannel {d : Nat} {B : mB} {v : mV} {w : mX} {Q : Option Int32 → mMH → Prop} {b g : Nat} (hB : isMach B b g) (hd : g + 2 ≤ b) (f_reg : mF) (f_memory : mF) (f_links_0 : mF) (f_links_1 : mF) (hO : OX3_enableChannel f_reg f_memory f_links_0 f_links_1) (hQ : Q (some ((FX3_enableChannel f_reg f_memory f_links_0 f_links_1).1)) (mH B (mE v [(b + 1, (FX3_enableChannel f_reg f_memory f_links_0 f_links_1).2.1), (b + 3, (FX3_enableChannel f_reg f_memory f_links_0 f_links_1).2.2.1), (b + 9, (FX3_enableChannel f_reg f_memory f_links_0 f_links_1).2.2.2.1), (b + 10, (FX3_enableChannel f_reg f_memory f_links_0 f_links_1).2.2.2.2)]) w)) : CQ (d + 3) 60 [.ref b] (mH B (mE v [(b + 1, f_reg), (b + 3, f_memory), (b + 9, f_links_0), (b + 10, f_links_1)]) w) Q := by
  have hn : ∀ (f_reg : mF) (f_memory : mF) (f_links_0 : mF) (f_links_1 : mF), mNd [(b + 1, f_reg), (b + 3, f_memory), (b + 9, f_links_0), (b + 10, f_links_1)] := fun _ _ _ _ => by
    show List.Nodup _
    simp only [List.map_cons, List.map_nil, List.nodup_cons, List.mem_cons, List.not_mem_nil, or_false, not_or, not_false_eq_true, List.nodup_nil, and_true]
    omega
  obtain ⟨P, hPQ, hP⟩ : ∃ P : Int32 × mF × mF × mF × mF → Prop, (∀ (q : Int32) (q0 : mF) (q1 : mF) (q2 : mF) (q3 : mF), P (q, q0, q1, q2, q3) → Q (some q) (mH B (mE v [(b + 1, q0), (b + 3, q1), (b + 9, q2), (b + 10, q3)]) w)) ∧ P (FX3_enableChannel f_reg f_memory f_links_0 f_links_1) := ⟨fun res => Q (some res.1) (mH B (mE v [(b + 1, res.2.1), (b + 3, res.2.2.1), (b + 9, res.2.2.2.1), (b + 10, res.2.2.2.2)]) w), fun _ _ _ _ _ h => h, hQ⟩
  refine r_begin mt_60 (by intro a ha; simp only [List.mem_cons, List.not_mem_nil, or_false] at ha; rcases ha with rfl <;> rfl) (Nat.le_of_ble_eq_true rfl) ?_
  rw [FX3_enableChannel] at hP
  rw [OX3_enableChannel] at hO
  show RB _ _ _ _ [some (.ref b), none] [] _ _
  refine r_aload rfl ?_
  refine r_getr (q := b + 1) hB.1 hB.2.2.2.2.2.2.2.2.2.2.1 ?_
  refine r_int ?_
  refine r_ald (x := f_reg 0) 0 0 (hn _ _ _ _) rfl hB.2.1 (by decide) rfl (lt_in 0 20 rfl rfl) (lt_cl 0 rfl) rfl ?_
  refine r_if (fun c1 : (f_reg 0) = 0 => ?_) (fun c1 : ¬ ((f_reg 0) = 0) => ?_)
  · rw [if_pos c1] at hP
    have hO := hO.1 c1
    refine r_aload rfl ?_
    refine r_getr (q := b + 1) hB.1 hB.2.2.2.2.2.2.2.2.2.2.1 ?_
    refine r_int ?_
    refine r_aload rfl ?_
    refine r_getr (q := b + 1) hB.1 hB.2.2.2.2.2.2.2.2.2.2.1 ?_
    refine r_int ?_
    refine r_ald (x := f_reg 2) 0 2 (hn _ _ _ _) rfl hB.2.1 (by decide) rfl (lt_in 2 20 rfl rfl) (lt_cl 2 rfl) rfl ?_
    refine r_ast (y := f_reg 2) (env' := [(b + 1, (upd f_reg 1 (f_reg 2))), (b + 3, f_memory), (b + 9, f_links_0), (b + 10, f_links_1)]) 0 1 (hn _ _ _ _) rfl hB.2.1 (by decide) rfl (lt_in 1 20 rfl rfl) (lt_cl 1 rfl) rfl rfl ?_
    refine r_int ?_
    exact r_ret rfl rfl (hPQ 1 (upd f_reg 1 (f_reg 2)) f_memory f_links_0 f_links_1 hP)
  · rw [if_neg c1] at hP
    have hO := hO.2 c1
    refine r_aload rfl ?_
    refine r_getr (q := b + 1) hB.1 hB.2.2.2.2.2.2.2.2.2.2.1 ?_
    refine r_int ?_
    refine r_ald (x := f_reg 1) 0 1 (hn _ _ _ _) rfl hB.2.1 (by decide) rfl (lt_in 1 20 rfl rfl) (lt_cl 1 rfl) rfl ?_
    refine r_istore (L' := [some (.ref b), some (.int (f_reg 1))]) rfl rfl ?_
    refine r_iload rfl ?_
    have k25 := fun (Q' : Option Int32 → mMH → Prop) hq => tX3_isChannelIn (d := d + 0) (B := B) (v := mE v [(b + 1, f_reg), (b + 3, f_memory), (b + 9, f_links_0), (b + 10, f_links_1)]) (w := w) (Q := Q') (f_reg 1) hq
    generalize hg_u2 : FX3_isChannelIn (f_reg 1) = u2 at k25 hP hO
    try dsimp only at hP hO
    refine r_callS (st := []) (as := [.int (f_reg 1)]) (envc := []) (envc' := []) (env' := [(b + 1, f_reg), (b + 3, f_memory), (b + 9, f_links_0), (b + 10, f_links_1)]) (rv := some u2) [] (Or.inl rfl) (hn _ _ _ _) rfl rfl (Nat.le_of_ble_eq_true rfl) rfl rfl rfl k25 ?_
    show RB _ _ _ _ _ [.int u2] _ _
    refine r_if1 (fun c3 : u2 = 0 => ?_) (fun c3 : ¬ (u2 = 0) => ?_)
    · rw [if_pos c3] at hP
      have hO := hO.1 c3
      refine r_int ?_
      exact r_ret rfl rfl (hPQ 0 f_reg f_memory f_links_0 f_links_1 hP)
    · rw [if_neg c3] at hP
      have hO := hO.2 c3
      refine r_iload rfl ?_
      refine r_int ?_
      refine r_icmp (fun c4 : 4 ≤ (f_reg 1) => ?_) (fun c4 : ¬ (4 ≤ (f_reg 1)) => ?_)
      · rw [if_pos c4] at hP
        have hO := hO.1 c4
        refine r_aload rfl ?_
        refine r_getr (q := b + 3) hB.1 hB.2.2.2.2.2.2.2.2.2.2.2.2.1 ?_
        refine r_iload rfl ?_
        obtain ⟨h5, hO⟩ := hO
        refine r_ald (x := f_memory ((f_reg 1 : Int32).toNatClampNeg)) 1 ((f_reg 1 : Int32).toNatClampNeg) (hn _ _ _ _) rfl hB.2.2.2.1 (by decide) rfl h5 rfl rfl ?_
        refine r_int ?_
        refine r_icmp1 (fun c6 : (f_memory ((f_reg 1 : Int32).toNatClampNeg)) = (-1) => ?_) (fun c6 : ¬ ((f_memory ((f_reg 1 : Int32).toNatClampNeg)) = (-1)) => ?_)
        · rw [if_pos c6] at hP
          have hO := hO.1 c6
          refine r_aload rfl ?_
          refine r_getr (q := b + 3) hB.1 hB.2.2.2.2.2.2.2.2.2.2.2.2.1 ?_
          refine r_iload rfl ?_
          refine r_aload rfl ?_
          have k10 := fun (Q' : Option Int32 → mMH → Prop) hq => tX3_own (d := d + 1) (B := B) (v := mE v [(b + 1, f_reg), (b + 3, f_memory), (b + 9, f_links_0), (b + 10, f_links_1)]) (w := w) (Q := Q') hB (by omega) f_reg hq
          generalize hg_u7 : FX3_own f_reg = u7 at k10 hP hO
          try dsimp only at hP hO
          refine r_callV (st := [.int (f_reg 1), .ref (b + 3)]) (o := b) (as := []) (envc := [(b + 1, f_reg)]) (envc' := [(b + 1, f_reg)]) (env' := [(b + 1, f_reg), (b + 3, f_memory), (b + 9, f_links_0), (b + 10, f_links_1)]) (rv := some u7) [0] (hn _ _ _ _) rfl rfl (Nat.le_of_ble_eq_true rfl) hB.1 rfl rfl rfl k10 ?_
          show RB _ _ _ _ _ [.int u7, .int (f_reg 1), .ref (b + 3)] _ _
          have h8 := hO
          refine r_ast (y := u7) (env' := [(b + 1, f_reg), (b + 3, (upd f_memory ((f_reg 1 : Int32).toNatClampNeg) u7)), (b + 9, f_links_0), (b + 10, f_links_1)]) 1 ((f_reg 1 : Int32).toNatClampNeg) (hn _ _ _ _) rfl hB.2.2.2.1 (by decide) rfl h8 rfl rfl rfl ?_
          generalize hg_g9 : upd f_memory ((f_reg 1 : Int32).toNatClampNeg) u7 = g9 at hP ⊢
          try dsimp only at hP
          refine r_goto ?_
          refine r_aload rfl ?_
          refine r_getr (q := b + 1) hB.1 hB.2.2.2.2.2.2.2.2.2.2.1 ?_
          refine r_int ?_
          refine r_aload rfl ?_
          refine r_getr (q := b + 1) hB.1 hB.2.2.2.2.2.2.2.2.2.2.1 ?_
          refine r_int ?_
          refine r_ald (x := f_reg 2) 0 2 (hn _ _ _ _) rfl hB.2.1 (by decide) rfl (lt_in 2 20 rfl rfl) (lt_cl 2 rfl) rfl ?_
          refine r_ast (y := f_reg 2) (env' := [(b + 1, (upd f_reg 1 (f_reg 2))), (b + 3, g9), (b + 9, f_links_0), (b + 10, f_links_1)]) 0 1 (hn _ _ _ _) rfl hB.2.1 (by decide) rfl (lt_in 1 20 rfl rfl) (lt_cl 1 rfl) rfl rfl ?_
          refine r_int ?_
          exact r_ret rfl rfl (hPQ 1 (upd f_reg 1 (f_reg 2)) g9 f_links_0 f_links_1 hP)
        · rw [if_neg c6] at hP
          have hO := hO.2 c6
          refine r_aload rfl ?_
          refine r_getr (q := b + 3) hB.1 hB.2.2.2.2.2.2.2.2.2.2.2.2.1 ?_
          refine r_iload rfl ?_
          obtain ⟨h11, hO⟩ := hO
          refine r_ald (x := f_memory ((f_reg 1 : Int32).toNatClampNeg)) 1 ((f_reg 1 : Int32).toNatClampNeg) (hn _ _ _ _) rfl hB.2.2.2.1 (by decide) rfl h11 rfl rfl ?_
          refine r_aload rfl ?_
          have k16 := fun (Q' : Option Int32 → mMH → Prop) hq => tX3_own (d := d + 1) (B := B) (v := mE v [(b + 1, f_reg), (b + 3, f_memory), (b + 9, f_links_0), (b + 10, f_links_1)]) (w := w) (Q := Q') hB (by omega) f_reg hq
          generalize hg_u12 : FX3_own f_reg = u12 at k16 hP hO
          try dsimp only at hP hO
          refine r_callV (st := [.int (f_memory ((f_reg 1 : Int32).toNatClampNeg))]) (o := b) (as := []) (envc := [(b + 1, f_reg)]) (envc' := [(b + 1, f_reg)]) (env' := [(b + 1, f_reg), (b + 3, f_memory), (b + 9, f_links_0), (b + 10, f_links_1)]) (rv := some u12) [0] (hn _ _ _ _) rfl rfl (Nat.le_of_ble_eq_true rfl) hB.1 rfl rfl rfl k16 ?_
          show RB _ _ _ _ _ [.int u12, .int (f_memory ((f_reg 1 : Int32).toNatClampNeg))] _ _
          refine r_icmp (fun c13 : (f_memory ((f_reg 1 : Int32).toNatClampNeg)) = u12 => ?_) (fun c13 : ¬ ((f_memory ((f_reg 1 : Int32).toNatClampNeg)) = u12) => ?_)
          · rw [if_pos c13] at hP
            have hO := hO.1 c13
            refine r_aload rfl ?_
            refine r_getr (q := b + 1) hB.1 hB.2.2.2.2.2.2.2.2.2.2.1 ?_
            refine r_int ?_
            refine r_aload rfl ?_
            refine r_getr (q := b + 1) hB.1 hB.2.2.2.2.2.2.2.2.2.2.1 ?_
            refine r_int ?_
            refine r_ald (x := f_reg 2) 0 2 (hn _ _ _ _) rfl hB.2.1 (by decide) rfl (lt_in 2 20 rfl rfl) (lt_cl 2 rfl) rfl ?_
            refine r_ast (y := f_reg 2) (env' := [(b + 1, (upd f_reg 1 (f_reg 2))), (b + 3, f_memory), (b + 9, f_links_0), (b + 10, f_links_1)]) 0 1 (hn _ _ _ _) rfl hB.2.1 (by decide) rfl (lt_in 1 20 rfl rfl) (lt_cl 1 rfl) rfl rfl ?_
            refine r_int ?_
            exact r_ret rfl rfl (hPQ 1 (upd f_reg 1 (f_reg 2)) f_memory f_links_0 f_links_1 hP)
          · rw [if_neg c13] at hP
            have hO := hO.2 c13
            refine r_aload rfl ?_
            refine r_getr (q := b + 3) hB.1 hB.2.2.2.2.2.2.2.2.2.2.2.2.1 ?_
            refine r_aload rfl ?_
            refine r_getr (q := b + 1) hB.1 hB.2.2.2.2.2.2.2.2.2.2.1 ?_
            refine r_int ?_
            refine r_ald (x := f_reg 4) 0 4 (hn _ _ _ _) rfl hB.2.1 (by decide) rfl (lt_in 4 20 rfl rfl) (lt_cl 4 rfl) rfl ?_
            refine r_int ?_
            refine r_isub ?_
            refine r_int ?_
            have h14 := hO
            refine r_ast (y := (-4)) (env' := [(b + 1, f_reg), (b + 3, (upd f_memory (((f_reg 4) - 3 : Int32).toNatClampNeg) (-4))), (b + 9, f_links_0), (b + 10, f_links_1)]) 1 (((f_reg 4) - 3 : Int32).toNatClampNeg) (hn _ _ _ _) rfl hB.2.2.2.1 (by decide) rfl h14 rfl rfl rfl ?_
            generalize hg_g15 : upd f_memory (((f_reg 4) - 3 : Int32).toNatClampNeg) (-4) = g15 at hP ⊢
            try dsimp only at hP
            refine r_fall ?_
            refine r_aload rfl ?_
            refine r_getr (q := b + 1) hB.1 hB.2.2.2.2.2.2.2.2.2.2.1 ?_
            refine r_int ?_
            refine r_aload rfl ?_
            refine r_getr (q := b + 1) hB.1 hB.2.2.2.2.2.2.2.2.2.2.1 ?_
            refine r_int ?_
            refine r_ald (x := f_reg 2) 0 2 (hn _ _ _ _) rfl hB.2.1 (by decide) rfl (lt_in 2 20 rfl rfl) (lt_cl 2 rfl) rfl ?_
            refine r_ast (y := f_reg 2) (env' := [(b + 1, (upd f_reg 1 (f_reg 2))), (b + 3, g15), (b + 9, f_links_0), (b + 10, f_links_1)]) 0 1 (hn _ _ _ _) rfl hB.2.1 (by decide) rfl (lt_in 1 20 rfl rfl) (lt_cl 1 rfl) rfl rfl ?_
            refine r_int ?_
            exact r_ret rfl rfl (hPQ 1 (upd f_reg 1 (f_reg 2)) g15 f_links_0 f_links_1 hP)
      · rw [if_neg c4] at hP
        have hO := hO.2 c4
        refine r_aload rfl ?_
        refine r_aload rfl ?_
        refine r_getr (q := b + 8) hB.1 hB.2.2.2.2.2.2.2.2.2.2.2.2.2.2.1 ?_
        refine r_iload rfl ?_
        refine r_int ?_
        refine r_isub ?_
        obtain ⟨h17, hO⟩ := hO
        by_cases c18 : ((f_reg 1) - 2) = 0
        · rw [if_pos c18] at hP
          have hO := hO.1 c18
          refine r_aldr (q := b + 9) hB.2.2.2.2.1 (Or.inl rfl) h17 (by rw [c18]; exact hB.2.2.2.2.2.2.2.2.2.2.2.2.2.2.2.1) ?_
          have h20 := hO
          have k21 := fun (Q' : Option Int32 → mMH → Prop) hq => tX3_enableLink (d := d + 0) (B := B) (v := mE v [(b + 1, f_reg), (b + 3, f_memory), (b + 9, f_links_0), (b + 10, f_links_1)]) (w := w) (Q := Q') hB (by omega) hB.2.2.2.2.2.2.1 (by omega) f_reg f_memory f_links_0 h20 hq
          generalize hg_u19 : FX3_enableLink f_reg f_memory f_links_0 = u19 at k21 hP
          try dsimp only at hP
          refine r_callV (st := []) (o := b) (as := [.ref (b + 9)]) (envc := [(b + 1, f_reg), (b + 3, f_memory), (b + 9, f_links_0)]) (envc' := [(b + 1, f_reg), (b + 3, u19.2.1), (b + 9, u19.2.2)]) (env' := [(b + 1, f_reg), (b + 3, u19.2.1), (b + 9, u19.2.2), (b + 10, f_links_1)]) (rv := none) [0, 1, 2] (hn _ _ _ _) rfl rfl (Nat.le_of_ble_eq_true rfl) hB.1 rfl rfl rfl k21 ?_
          show RB _ _ _ _ _ [] _ _
          refine r_goto ?_
          refine r_aload rfl ?_
          refine r_getr (q := b + 1) hB.1 hB.2.2.2.2.2.2.2.2.2.2.1 ?_
          refine r_int ?_
          refine r_aload rfl ?_
          refine r_getr (q := b + 1) hB.1 hB.2.2.2.2.2.2.2.2.2.2.1 ?_
          refine r_int ?_
          refine r_ald (x := f_reg 2) 0 2 (hn _ _ _ _) rfl hB.2.1 (by decide) rfl (lt_in 2 20 rfl rfl) (lt_cl 2 rfl) rfl ?_
          refine r_ast (y := f_reg 2) (env' := [(b + 1, (upd f_reg 1 (f_reg 2))), (b + 3, u19.2.1), (b + 9, u19.2.2), (b + 10, f_links_1)]) 0 1 (hn _ _ _ _) rfl hB.2.1 (by decide) rfl (lt_in 1 20 rfl rfl) (lt_cl 1 rfl) rfl rfl ?_
          refine r_int ?_
          exact r_ret rfl rfl (hPQ 1 (upd f_reg 1 (f_reg 2)) u19.2.1 u19.2.2 f_links_1 hP)
        · rw [if_neg c18] at hP
          have hO := hO.2 c18
          refine r_aldr (q := b + 10) hB.2.2.2.2.1 (Or.inl rfl) h17 (by rw [vp2 h17 c18]; exact hB.2.2.2.2.2.2.2.2.2.2.2.2.2.2.2.2) ?_
          have h23 := hO
          have k24 := fun (Q' : Option Int32 → mMH → Prop) hq => tX3_enableLink (d := d + 0) (B := B) (v := mE v [(b + 1, f_reg), (b + 3, f_memory), (b + 9, f_links_0), (b + 10, f_links_1)]) (w := w) (Q := Q') hB (by omega) hB.2.2.2.2.2.2.2.1 (by omega) f_reg f_memory f_links_1 h23 hq
          generalize hg_u22 : FX3_enableLink f_reg f_memory f_links_1 = u22 at k24 hP
          try dsimp only at hP
          refine r_callV (st := []) (o := b) (as := [.ref (b + 10)]) (envc := [(b + 1, f_reg), (b + 3, f_memory), (b + 10, f_links_1)]) (envc' := [(b + 1, f_reg), (b + 3, u22.2.1), (b + 10, u22.2.2)]) (env' := [(b + 1, f_reg), (b + 3, u22.2.1), (b + 9, f_links_0), (b + 10, u22.2.2)]) (rv := none) [0, 1, 3] (hn _ _ _ _) rfl rfl (Nat.le_of_ble_eq_true rfl) hB.1 rfl rfl rfl k24 ?_
          show RB _ _ _ _ _ [] _ _
          refine r_goto ?_
          refine r_aload rfl ?_
          refine r_getr (q := b + 1) hB.1 hB.2.2.2.2.2.2.2.2.2.2.1 ?_
          refine r_int ?_
          refine r_aload rfl ?_
          refine r_getr (q := b + 1) hB.1 hB.2.2.2.2.2.2.2.2.2.2.1 ?_
          refine r_int ?_
          refine r_ald (x := f_reg 2) 0 2 (hn _ _ _ _) rfl hB.2.1 (by decide) rfl (lt_in 2 20 rfl rfl) (lt_cl 2 rfl) rfl ?_
          refine r_ast (y := f_reg 2) (env' := [(b + 1, (upd f_reg 1 (f_reg 2))), (b + 3, u22.2.1), (b + 9, f_links_0), (b + 10, u22.2.2)]) 0 1 (hn _ _ _ _) rfl hB.2.1 (by decide) rfl (lt_in 1 20 rfl rfl) (lt_cl 1 rfl) rfl rfl ?_
          refine r_int ?_
          exact r_ret rfl rfl (hPQ 1 (upd f_reg 1 (f_reg 2)) u22.2.1 f_links_0 u22.2.2 hP)

def FX3_fire (x1 : Int32) (f_reg : mF) (f_memory : mF) : Int32 × mF × mF :=
  if x1 = 0 then ((0, (upd f_reg 0 0), f_memory)) else (if (f_memory ((f_reg 4 : Int32).toNatClampNeg)) = (-1) then (let g5 := upd f_memory ((f_reg 4 : Int32).toNatClampNeg) (f_reg 0); (0, (upd f_reg 0 1), g5)) else ((0, (upd f_reg 0 0), f_memory)))
def OX3_fire (x1 : Int32) (f_reg : mF) (f_memory : mF) : Prop :=
  (x1 = 0 → True) ∧ (¬ (x1 = 0) → (vp_in (f_reg 4) 96 ∧ (((f_memory ((f_reg 4 : Int32).toNatClampNeg)) = (-1) → (vp_in (f_reg 4) 96)) ∧ (¬ ((f_memory ((f_reg 4 : Int32).toNatClampNeg)) = (-1)) → True))))
set_option maxRecDepth 20000 in
theorem tX3_fire {d : Nat} {B : mB} {v : mV} {w : mX} {Q : Option Int32 → mMH → Prop} {b g : Nat} (hB : isMach B b g) (hd : g + 2 ≤ b) (x1 : Int32) (f_reg : mF) (f_memory : mF) (hO : OX3_fire x1 f_reg f_memory) (hQ : Q (none) (mH B (mE v [(b + 1, (FX3_fire x1 f_reg f_memory).2.1), (b + 3, (FX3_fire x1 f_reg f_memory).2.2)]) w)) : CQ (d + 1) 64 [.ref b, .int x1] (mH B (mE v [(b + 1, f_reg), (b + 3, f_memory)]) w) Q := by
  have hn : ∀ (f_reg : mF) (f_memory : mF), mNd [(b + 1, f_reg), (b + 3, f_memory)] := fun _ _ => by
    show List.Nodup _
    simp only [List.map_cons, List.map_nil, List.nodup_cons, List.mem_cons, List.not_mem_nil, or_false, not_or, not_false_eq_true, List.nodup_nil, and_true]
    omega
  obtain ⟨P, hPQ, hP⟩ : ∃ P : Int32 × mF × mF → Prop, (∀ (q : Int32) (q0 : mF) (q1 : mF), P (q, q0, q1) → Q (none) (mH B (mE v [(b + 1, q0), (b + 3, q1)]) w)) ∧ P (FX3_fire x1 f_reg f_memory) := ⟨fun res => Q (none) (mH B (mE v [(b + 1, res.2.1), (b + 3, res.2.2)]) w), fun _ _ _ h => h, hQ⟩
  refine r_begin mt_64 (by intro a ha; simp only [List.mem_cons, List.not_mem_nil, or_false] at ha; rcases ha with rfl | rfl <;> rfl) (Nat.le_of_ble_eq_true rfl) ?_
  rw [FX3_fire] at hP
  rw [OX3_fire] at hO
  show RB _ _ _ _ [some (.ref b), some (.int x1), none] [] _ _
  refine r_aload rfl ?_
  refine r_getr (q := b + 1) hB.1 hB.2.2.2.2.2.2.2.2.2.2.1 ?_
  refine r_int ?_
  refine r_ald (x := f_reg 4) 0 4 (hn _ _) rfl hB.2.1 (by decide) rfl (lt_in 4 20 rfl rfl) (lt_cl 4 rfl) rfl ?_
  refine r_istore (L' := [some (.ref b), some (.int x1), some (.int (f_reg 4))]) rfl rfl ?_
  refine r_iload rfl ?_
  refine r_if (fun c1 : x1 = 0 => ?_) (fun c1 : ¬ (x1 = 0) => ?_)
  · rw [if_pos c1] at hP
    have hO := hO.1 c1
    refine r_aload rfl ?_
    refine r_getr (q := b + 1) hB.1 hB.2.2.2.2.2.2.2.2.2.2.1 ?_
    refine r_int ?_
    refine r_int ?_
    refine r_ast (y := 0) (env' := [(b + 1, (upd f_reg 0 0)), (b + 3, f_memory)]) 0 0 (hn _ _) rfl hB.2.1 (by decide) rfl (lt_in 0 20 rfl rfl) (lt_cl 0 rfl) rfl rfl ?_
    refine r_fall ?_
    exact r_retv rfl (hPQ 0 (upd f_reg 0 0) f_memory hP)
  · rw [if_neg c1] at hP
    have hO := hO.2 c1
    refine r_aload rfl ?_
    refine r_getr (q := b + 3) hB.1 hB.2.2.2.2.2.2.2.2.2.2.2.2.1 ?_
    refine r_iload rfl ?_
    obtain ⟨h2, hO⟩ := hO
    refine r_ald (x := f_memory ((f_reg 4 : Int32).toNatClampNeg)) 1 ((f_reg 4 : Int32).toNatClampNeg) (hn _ _) rfl hB.2.2.2.1 (by decide) rfl h2 rfl rfl ?_
    refine r_int ?_
    refine r_icmp1 (fun c3 : (f_memory ((f_reg 4 : Int32).toNatClampNeg)) = (-1) => ?_) (fun c3 : ¬ ((f_memory ((f_reg 4 : Int32).toNatClampNeg)) = (-1)) => ?_)
    · rw [if_pos c3] at hP
      have hO := hO.1 c3
      refine r_aload rfl ?_
      refine r_getr (q := b + 3) hB.1 hB.2.2.2.2.2.2.2.2.2.2.2.2.1 ?_
      refine r_iload rfl ?_
      refine r_aload rfl ?_
      refine r_getr (q := b + 1) hB.1 hB.2.2.2.2.2.2.2.2.2.2.1 ?_
      refine r_int ?_
      refine r_ald (x := f_reg 0) 0 0 (hn _ _) rfl hB.2.1 (by decide) rfl (lt_in 0 20 rfl rfl) (lt_cl 0 rfl) rfl ?_
      have h4 := hO
      refine r_ast (y := f_reg 0) (env' := [(b + 1, f_reg), (b + 3, (upd f_memory ((f_reg 4 : Int32).toNatClampNeg) (f_reg 0)))]) 1 ((f_reg 4 : Int32).toNatClampNeg) (hn _ _) rfl hB.2.2.2.1 (by decide) rfl h4 rfl rfl rfl ?_
      generalize hg_g5 : upd f_memory ((f_reg 4 : Int32).toNatClampNeg) (f_reg 0) = g5 at hP ⊢
      try dsimp only at hP
      refine r_aload rfl ?_
      refine r_getr (q := b + 1) hB.1 hB.2.2.2.2.2.2.2.2.2.2.1 ?_
      refine r_int ?_
      refine r_int ?_
      refine r_ast (y := 1) (env' := [(b + 1, (upd f_reg 0 1)), (b + 3, g5)]) 0 0 (hn _ _) rfl hB.2.1 (by decide) rfl (lt_in 0 20 rfl rfl) (lt_cl 0 rfl) rfl rfl ?_
      refine r_goto ?_
      exact r_retv rfl (hPQ 0 (upd f_reg 0 1) g5 hP)
    · rw [if_neg c3] at hP
      have hO := hO.2 c3
      refine r_aload rfl ?_
      refine r_getr (q := b + 1) hB.1 hB.2.2.2.2.2.2.2.2.2.2.1 ?_
      refine r_int ?_
      refine r_int ?_
      refine r_ast (y := 0) (env' := [(b + 1, (upd f_reg 0 0)), (b + 3, f_memory)]) 0 0 (hn _ _) rfl hB.2.1 (by decide) rfl (lt_in 0 20 rfl rfl) (lt_cl 0 rfl) rfl rfl ?_
      refine r_fall ?_
      exact r_retv rfl (hPQ 0 (upd f_reg 0 0) f_memory hP)

def FX3_disableChannel (f_reg : mF) (f_memory : mF) (f_links_0 : mF) (f_links_1 : mF) : Int32 × mF × mF × mF × mF :=
  if (f_reg 1) = 0 then (let u2 := FX3_fire 0 f_reg f_memory; (1, (upd (upd u2.2.1 1 0) 2 0), u2.2.2, f_links_0, f_links_1)) else (let u5 := FX3_isChannelIn (f_reg 2); if u5 = 0 then ((0, f_reg, f_memory, f_links_0, f_links_1)) else (if 4 ≤ (f_reg 2) then (let u9 := FX3_own f_reg; if (f_memory ((f_reg 2 : Int32).toNatClampNeg)) = u9 then (let g12 := upd f_memory ((f_reg 2 : Int32).toNatClampNeg) (-1); let u13 := FX3_fire 0 f_reg g12; (1, (upd (upd u13.2.1 1 0) 2 0), u13.2.2, f_links_0, f_links_1)) else (if (f_memory ((f_reg 2 : Int32).toNatClampNeg)) = (-1) then (let u18 := FX3_fire 0 f_reg f_memory; (1, (upd (upd u18.2.1 1 0) 2 0), u18.2.2, f_links_0, f_links_1)) else (let u21 := FX3_fire 1 f_reg f_memory; (1, (upd (upd u21.2.1 1 0) 2 0), u21.2.2, f_links_0, f_links_1)))) else (if ((f_reg 2) - 2) = 0 then (if ((f_reg 2) - 2) = 0 then (let u29 := FX3_fire (f_links_0 7) f_reg f_memory; (1, (upd (upd u29.2.1 1 0) 2 0), u29.2.2, (upd f_links_0 9 (-1)), f_links_1)) else (let u32 := FX3_fire (f_links_1 7) f_reg f_memory; (1, (upd (upd u32.2.1 1 0) 2 0), u32.2.2, (upd f_links_0 9 (-1)), f_links_1))) else (if ((f_reg 2) - 2) = 0 then (let u37 := FX3_fire (f_links_0 7) f_reg f_memory; (1, (upd (upd u37.2.1 1 0) 2 0), u37.2.2, f_links_0, (upd f_links_1 9 (-1)))) else (let u40 := FX3_fire (f_links_1 7) f_reg f_memory; (1, (upd (upd u40.2.1 1 0) 2 0), u40.2.2, f_links_0, (upd f_links_1 9 (-1))))))))
def OX3_disableChannel (f_reg : mF) (f_memory : mF) (f_links_0 : mF) (f_links_1 : mF) : Prop :=
  ((f_reg 1) = 0 → (OX3_fire 0 f_reg f_memory)) ∧ (¬ ((f_reg 1) = 0) → ((let u5 := FX3_isChannelIn (f_reg 2); (u5 = 0 → True) ∧ (¬ (u5 = 0) → ((4 ≤ (f_reg 2) → (vp_in (f_reg 2) 96 ∧ ((let u9 := FX3_own f_reg; ((f_memory ((f_reg 2 : Int32).toNatClampNeg)) = u9 → (vp_in (f_reg 2) 96 ∧ (let g12 := upd f_memory ((f_reg 2 : Int32).toNatClampNeg) (-1); OX3_fire 0 f_reg g12))) ∧ (¬ ((f_memory ((f_reg 2 : Int32).toNatClampNeg)) = u9) → (vp_in (f_reg 2) 96 ∧ (((f_memory ((f_reg 2 : Int32).toNatClampNeg)) = (-1) → (OX3_fire 0 f_reg f_memory)) ∧ (¬ ((f_memory ((f_reg 2 : Int32).toNatClampNeg)) = (-1)) → (OX3_fire 1 f_reg f_memory))))))))) ∧ (¬ (4 ≤ (f_reg 2)) → (vp_in ((f_reg 2) - 2) 2 ∧ (((f_reg 2) - 2) = 0 → (vp_in ((f_reg 2) - 2) 2 ∧ (((f_reg 2) - 2) = 0 → (OX3_fire (f_links_0 7) f_reg f_memory)) ∧ (¬ (((f_reg 2) - 2) = 0) → (OX3_fire (f_links_1 7) f_reg f_memory)))) ∧ (¬ (((f_reg 2) - 2) = 0) → (vp_in ((f_reg 2) - 2) 2 ∧ (((f_reg 2) - 2) = 0 → (OX3_fire (f_links_0 7) f_reg f_memory)) ∧ (¬ (((f_reg 2) - 2) = 0) → (OX3_fire (f_links_1 7) f_reg f_memory)))))))))))
set_option maxRecDepth 20000 in
theorem tX3_disableChannel {d : Nat} {B : mB} {v : mV} {w : mX} {Q : Option Int32 → mMH → Prop} {b g : Nat} (hB : isMach B b g) (hd : g + 2 ≤ b) (f_reg : mF) (f_memory : mF) (f_links_0 : mF) (f_links_1 : mF) (hO : OX3_disableChannel f_reg f_memory f_links_0 f_links_1) (hQ : Q (some ((FX3_disableChannel f_reg f_memory f_links_0 f_links_1).1)) (mH B (mE v [(b + 1, (FX3_disableChannel f_reg f_memory f_links_0 f_links_1).2.1), (b + 3, (FX3_disableChannel f_reg f_memory f_links_0 f_links_1).2.2.1), (b + 9, (FX3_disableChannel f_reg f_memory f_links_0 f_links_1).2.2.2.1), (b + 10, (FX3_disableChannel f_reg f_memory f_links_0 f_links_1).2.2.2.2)]) w)) : CQ (d + 3) 62 [.ref b] (mH B (mE v [(b + 1, f_reg), (b + 3, f_memory), (b + 9, f_links_0), (b + 10, f_links_1)]) w) Q := by
  have hn : ∀ (f_reg : mF) (f_memory : mF) (f_links_0 : mF) (f_links_1 : mF), mNd [(b + 1, f_reg), (b + 3, f_memory), (b + 9, f_links_0), (b + 10, f_links_1)] := fun _ _ _ _ => by
    show List.Nodup _
    simp only [List.map_cons, List.map_nil, List.nodup_cons, List.mem_cons, List.not_mem_nil, or_false, not_or, not_false_eq_true, List.nodup_nil, and_true]
    omega
  obtain ⟨P, hPQ, hP⟩ : ∃ P : Int32 × mF × mF × mF × mF → Prop, (∀ (q : Int32) (q0 : mF) (q1 : mF) (q2 : mF) (q3 : mF), P (q, q0, q1, q2, q3) → Q (some q) (mH B (mE v [(b + 1, q0), (b + 3, q1), (b + 9, q2), (b + 10, q3)]) w)) ∧ P (FX3_disableChannel f_reg f_memory f_links_0 f_links_1) := ⟨fun res => Q (some res.1) (mH B (mE v [(b + 1, res.2.1), (b + 3, res.2.2.1), (b + 9, res.2.2.2.1), (b + 10, res.2.2.2.2)]) w), fun _ _ _ _ _ h => h, hQ⟩
  refine r_begin mt_62 (by intro a ha; simp only [List.mem_cons, List.not_mem_nil, or_false] at ha; rcases ha with rfl <;> rfl) (Nat.le_of_ble_eq_true rfl) ?_
  rw [FX3_disableChannel] at hP
  rw [OX3_disableChannel] at hO
  show RB _ _ _ _ [some (.ref b), none, none] [] _ _
  refine r_int ?_
  refine r_istore (L' := [some (.ref b), some (.int 0), none]) rfl rfl ?_
  refine r_aload rfl ?_
  refine r_getr (q := b + 1) hB.1 hB.2.2.2.2.2.2.2.2.2.2.1 ?_
  refine r_int ?_
  refine r_ald (x := f_reg 1) 0 1 (hn _ _ _ _) rfl hB.2.1 (by decide) rfl (lt_in 1 20 rfl rfl) (lt_cl 1 rfl) rfl ?_
  refine r_if (fun c1 : (f_reg 1) = 0 => ?_) (fun c1 : ¬ ((f_reg 1) = 0) => ?_)
  · rw [if_pos c1] at hP
    have hO := hO.1 c1
    refine r_aload rfl ?_
    refine r_iload rfl ?_
    have h3 := hO
    have k4 := fun (Q' : Option Int32 → mMH → Prop) hq => tX3_fire (d := d + 1) (B := B) (v := mE v [(b + 1, f_reg), (b + 3, f_memory), (b + 9, f_links_0), (b + 10, f_links_1)]) (w := w) (Q := Q') hB (by omega) 0 f_reg f_memory h3 hq
    generalize hg_u2 : FX3_fire 0 f_reg f_memory = u2 at k4 hP
    try dsimp only at hP
    refine r_callV (st := []) (o := b) (as := [.int 0]) (envc := [(b + 1, f_reg), (b + 3, f_memory)]) (envc' := [(b + 1, u2.2.1), (b + 3, u2.2.2)]) (env' := [(b + 1, u2.2.1), (b + 3, u2.2.2), (b + 9, f_links_0), (b + 10, f_links_1)]) (rv := none) [0, 1] (hn _ _ _ _) rfl rfl (Nat.le_of_ble_eq_true rfl) hB.1 rfl rfl rfl k4 ?_
    show RB _ _ _ _ _ [] _ _
    refine r_aload rfl ?_
    refine r_getr (q := b + 1) hB.1 hB.2.2.2.2.2.2.2.2.2.2.1 ?_
    refine r_int ?_
    refine r_int ?_
    refine r_ast (y := 0) (env' := [(b + 1, (upd u2.2.1 1 0)), (b + 3, u2.2.2), (b + 9, f_links_0), (b + 10, f_links_1)]) 0 1 (hn _ _ _ _) rfl hB.2.1 (by decide) rfl (lt_in 1 20 rfl rfl) (lt_cl 1 rfl) rfl rfl ?_
    refine r_aload rfl ?_
    refine r_getr (q := b + 1) hB.1 hB.2.2.2.2.2.2.2.2.2.2.1 ?_
    refine r_int ?_
    refine r_int ?_
    refine r_ast (y := 0) (env' := [(b + 1, (upd (upd u2.2.1 1 0) 2 0)), (b + 3, u2.2.2), (b + 9, f_links_0), (b + 10, f_links_1)]) 0 2 (hn _ _ _ _) rfl hB.2.1 (by decide) rfl (lt_in 2 20 rfl rfl) (lt_cl 2 rfl) rfl rfl ?_
    refine r_int ?_
    exact r_ret rfl rfl (hPQ 1 (upd (upd u2.2.1 1 0) 2 0) u2.2.2 f_links_0 f_links_1 hP)
  · rw [if_neg c1] at hP
    have hO := hO.2 c1
    refine r_aload rfl ?_
    refine r_getr (q := b + 1) hB.1 hB.2.2.2.2.2.2.2.2.2.2.1 ?_
    refine r_int ?_
    refine r_ald (x := f_reg 2) 0 2 (hn _ _ _ _) rfl hB.2.1 (by decide) rfl (lt_in 2 20 rfl rfl) (lt_cl 2 rfl) rfl ?_
    refine r_istore (L' := [some (.ref b), some (.int 0), some (.int (f_reg 2))]) rfl rfl ?_
    refine r_iload rfl ?_
    have k43 := fun (Q' : Option Int32 → mMH → Prop) hq => tX3_isChannelIn (d := d + 0) (B := B) (v := mE v [(b + 1, f_reg), (b + 3, f_memory), (b + 9, f_links_0), (b + 10, f_links_1)]) (w := w) (Q := Q') (f_reg 2) hq
    generalize hg_u5 : FX3_isChannelIn (f_reg 2) = u5 at k43 hP hO
    try dsimp only at hP hO
    refine r_callS (st := []) (as := [.int (f_reg 2)]) (envc := []) (envc' := []) (env' := [(b + 1, f_reg), (b + 3, f_memory), (b + 9, f_links_0), (b + 10, f_links_1)]) (rv := some u5) [] (Or.inl rfl) (hn _ _ _ _) rfl rfl (Nat.le_of_ble_eq_true rfl) rfl rfl rfl k43 ?_
    show RB _ _ _ _ _ [.int u5] _ _
    refine r_if1 (fun c6 : u5 = 0 => ?_) (fun c6 : ¬ (u5 = 0) => ?_)
    · rw [if_pos c6] at hP
      have hO := hO.1 c6
      refine r_int ?_
      exact r_ret rfl rfl (hPQ 0 f_reg f_memory f_links_0 f_links_1 hP)
    · rw [if_neg c6] at hP
      have hO := hO.2 c6
      refine r_iload rfl ?_
      refine r_int ?_
      refine r_icmp (fun c7 : 4 ≤ (f_reg 2) => ?_) (fun c7 : ¬ (4 ≤ (f_reg 2)) => ?_)
      · rw [if_pos c7] at hP
        have hO := hO.1 c7
        refine r_aload rfl ?_
        refine r_getr (q := b + 3) hB.1 hB.2.2.2.2.2.2.2.2.2.2.2.2.1 ?_
        refine r_iload rfl ?_
        obtain ⟨h8, hO⟩ := hO
        refine r_ald (x := f_memory ((f_reg 2 : Int32).toNatClampNeg)) 1 ((f_reg 2 : Int32).toNatClampNeg) (hn _ _ _ _) rfl hB.2.2.2.1 (by decide) rfl h8 rfl rfl ?_
        refine r_aload rfl ?_
        have k24 := fun (Q' : Option Int32 → mMH → Prop) hq => tX3_own (d := d + 1) (B := B) (v := mE v [(b + 1, f_reg), (b + 3, f_memory), (b + 9, f_links_0), (b + 10, f_links_1)]) (w := w) (Q := Q') hB (by omega) f_reg hq
        generalize hg_u9 : FX3_own f_reg = u9 at k24 hP hO
        try dsimp only at hP hO
        refine r_callV (st := [.int (f_memory ((f_reg 2 : Int32).toNatClampNeg))]) (o := b) (as := []) (envc := [(b + 1, f_reg)]) (envc' := [(b + 1, f_reg)]) (env' := [(b + 1, f_reg), (b + 3, f_memory), (b + 9, f_links_0), (b + 10, f_links_1)]) (rv := some u9) [0] (hn _ _ _ _) rfl rfl (Nat.le_of_ble_eq_true rfl) hB.1 rfl rfl rfl k24 ?_
        show RB _ _ _ _ _ [.int u9, .int (f_memory ((f_reg 2 : Int32).toNatClampNeg))] _ _
        refine r_icmp1 (fun c10 : (f_memory ((f_reg 2 : Int32).toNatClampNeg)) = u9 => ?_) (fun c10 : ¬ ((f_memory ((f_reg 2 : Int32).toNatClampNeg)) = u9) => ?_)
        · rw [if_pos c10] at hP
          have hO := hO.1 c10
          refine r_aload rfl ?_
          refine r_getr (q := b + 3) hB.1 hB.2.2.2.2.2.2.2.2.2.2.2.2.1 ?_
          refine r_iload rfl ?_
          refine r_int ?_
          obtain ⟨h11, hO⟩ := hO
          refine r_ast (y := (-1)) (env' := [(b + 1, f_reg), (b + 3, (upd f_memory ((f_reg 2 : Int32).toNatClampNeg) (-1))), (b + 9, f_links_0), (b + 10, f_links_1)]) 1 ((f_reg 2 : Int32).toNatClampNeg) (hn _ _ _ _) rfl hB.2.2.2.1 (by decide) rfl h11 rfl rfl rfl ?_
          generalize hg_g12 : upd f_memory ((f_reg 2 : Int32).toNatClampNeg) (-1) = g12 at hP hO ⊢
          try dsimp only at hP hO
          refine r_goto ?_
          refine r_aload rfl ?_
          refine r_iload rfl ?_
          have h14 := hO
          have k15 := fun (Q' : Option Int32 → mMH → Prop) hq => tX3_fire (d := d + 1) (B := B) (v := mE v [(b + 1, f_reg), (b + 3, g12), (b + 9, f_links_0), (b + 10, f_links_1)]) (w := w) (Q := Q') hB (by omega) 0 f_reg g12 h14 hq
          generalize hg_u13 : FX3_fire 0 f_reg g12 = u13 at k15 hP
          try dsimp only at hP
          refine r_callV (st := []) (o := b) (as := [.int 0]) (envc := [(b + 1, f_reg), (b + 3, g12)]) (envc' := [(b + 1, u13.2.1), (b + 3, u13.2.2)]) (env' := [(b + 1, u13.2.1), (b + 3, u13.2.2), (b + 9, f_links_0), (b + 10, f_links_1)]) (rv := none) [0, 1] (hn _ _ _ _) rfl rfl (Nat.le_of_ble_eq_true rfl) hB.1 rfl rfl rfl k15 ?_
          show RB _ _ _ _ _ [] _ _
          refine r_aload rfl ?_
          refine r_getr (q := b + 1) hB.1 hB.2.2.2.2.2.2.2.2.2.2.1 ?_
          refine r_int ?_
          refine r_int ?_
          refine r_ast (y := 0) (env' := [(b + 1, (upd u13.2.1 1 0)), (b + 3, u13.2.2), (b + 9, f_links_0), (b + 10, f_links_1)]) 0 1 (hn _ _ _ _) rfl hB.2.1 (by decide) rfl (lt_in 1 20 rfl rfl) (lt_cl 1 rfl) rfl rfl ?_
          refine r_aload rfl ?_
          refine r_getr (q := b + 1) hB.1 hB.2.2.2.2.2.2.2.2.2.2.1 ?_
          refine r_int ?_
          refine r_int ?_
          refine r_ast (y := 0) (env' := [(b + 1, (upd (upd u13.2.1 1 0) 2 0)), (b + 3, u13.2.2), (b + 9, f_links_0), (b + 10, f_links_1)]) 0 2 (hn _ _ _ _) rfl hB.2.1 (by decide) rfl (lt_in 2 20 rfl rfl) (lt_cl 2 rfl) rfl rfl ?_
          refine r_int ?_
          exact r_ret rfl rfl (hPQ 1 (upd (upd u13.2.1 1 0) 2 0) u13.2.2 f_links_0 f_links_1 hP)
        · rw [if_neg c10] at hP
          have hO := hO.2 c10
          refine r_aload rfl ?_
          refine r_getr (q := b + 3) hB.1 hB.2.2.2.2.2.2.2.2.2.2.2.2.1 ?_
          refine r_iload rfl ?_
          obtain ⟨h16, hO⟩ := hO
          refine r_ald (x := f_memory ((f_reg 2 : Int32).toNatClampNeg)) 1 ((f_reg 2 : Int32).toNatClampNeg) (hn _ _ _ _) rfl hB.2.2.2.1 (by decide) rfl h16 rfl rfl ?_
          refine r_int ?_
          refine r_icmp (fun c17 : (f_memory ((f_reg 2 : Int32).toNatClampNeg)) = (-1) => ?_) (fun c17 : ¬ ((f_memory ((f_reg 2 : Int32).toNatClampNeg)) = (-1)) => ?_)
          · rw [if_pos c17] at hP
            have hO := hO.1 c17
            refine r_int ?_
            refine r_fall ?_
            refine r_istore (L' := [some (.ref b), some (.int 0), some (.int (f_reg 2))]) rfl rfl ?_
            refine r_fall ?_
            refine r_aload rfl ?_
            refine r_iload rfl ?_
            have h19 := hO
            have k20 := fun (Q' : Option Int32 → mMH → Prop) hq => tX3_fire (d := d + 1) (B := B) (v := mE v [(b + 1, f_reg), (b + 3, f_memory), (b + 9, f_links_0), (b + 10, f_links_1)]) (w := w) (Q := Q') hB (by omega) 0 f_reg f_memory h19 hq
            generalize hg_u18 : FX3_fire 0 f_reg f_memory = u18 at k20 hP
            try dsimp only at hP
            refine r_callV (st := []) (o := b) (as := [.int 0]) (envc := [(b + 1, f_reg), (b + 3, f_memory)]) (envc' := [(b + 1, u18.2.1), (b + 3, u18.2.2)]) (env' := [(b + 1, u18.2.1), (b + 3, u18.2.2), (b + 9, f_links_0), (b + 10, f_links_1)]) (rv := none) [0, 1] (hn _ _ _ _) rfl rfl (Nat.le_of_ble_eq_true rfl) hB.1 rfl rfl rfl k20 ?_
            show RB _ _ _ _ _ [] _ _
            refine r_aload rfl ?_
            refine r_getr (q := b + 1) hB.1 hB.2.2.2.2.2.2.2.2.2.2.1 ?_
            refine r_int ?_
            refine r_int ?_
            refine r_ast (y := 0) (env' := [(b + 1, (upd u18.2.1 1 0)), (b + 3, u18.2.2), (b + 9, f_links_0), (b + 10, f_links_1)]) 0 1 (hn _ _ _ _) rfl hB.2.1 (by decide) rfl (lt_in 1 20 rfl rfl) (lt_cl 1 rfl) rfl rfl ?_
            refine r_aload rfl ?_
            refine r_getr (q := b + 1) hB.1 hB.2.2.2.2.2.2.2.2.2.2.1 ?_
            refine r_int ?_
            refine r_int ?_
            refine r_ast (y := 0) (env' := [(b + 1, (upd (upd u18.2.1 1 0) 2 0)), (b + 3, u18.2.2), (b + 9, f_links_0), (b + 10, f_links_1)]) 0 2 (hn _ _ _ _) rfl hB.2.1 (by decide) rfl (lt_in 2 20 rfl rfl) (lt_cl 2 rfl) rfl rfl ?_
            refine r_int ?_
            exact r_ret rfl rfl (hPQ 1 (upd (upd u18.2.1 1 0) 2 0) u18.2.2 f_links_0 f_links_1 hP)
          · rw [if_neg c17] at hP
            have hO := hO.2 c17
            refine r_int ?_
            refine r_goto ?_
            refine r_istore (L' := [some (.ref b), some (.int 1), some (.int (f_reg 2))]) rfl rfl ?_
            refine r_fall ?_
            refine r_aload rfl ?_
            refine r_iload rfl ?_
            have h22 := hO
            have k23 := fun (Q' : Option Int32 → mMH → Prop) hq => tX3_fire (d := d + 1) (B := B) (v := mE v [(b + 1, f_reg), (b + 3, f_memory), (b + 9, f_links_0), (b + 10, f_links_1)]) (w := w) (Q := Q') hB (by omega) 1 f_reg f_memory h22 hq
            generalize hg_u21 : FX3_fire 1 f_reg f_memory = u21 at k23 hP
            try dsimp only at hP
            refine r_callV (st := []) (o := b) (as := [.int 1]) (envc := [(b + 1, f_reg), (b + 3, f_memory)]) (envc' := [(b + 1, u21.2.1), (b + 3, u21.2.2)]) (env' := [(b + 1, u21.2.1), (b + 3, u21.2.2), (b + 9, f_links_0), (b + 10, f_links_1)]) (rv := none) [0, 1] (hn _ _ _ _) rfl rfl (Nat.le_of_ble_eq_true rfl) hB.1 rfl rfl rfl k23 ?_
            show RB _ _ _ _ _ [] _ _
            refine r_aload rfl ?_
            refine r_getr (q := b + 1) hB.1 hB.2.2.2.2.2.2.2.2.2.2.1 ?_
            refine r_int ?_
            refine r_int ?_
            refine r_ast (y := 0) (env' := [(b + 1, (upd u21.2.1 1 0)), (b + 3, u21.2.2), (b + 9, f_links_0), (b + 10, f_links_1)]) 0 1 (hn _ _ _ _) rfl hB.2.1 (by decide) rfl (lt_in 1 20 rfl rfl) (lt_cl 1 rfl) rfl rfl ?_
            refine r_aload rfl ?_
            refine r_getr (q := b + 1) hB.1 hB.2.2.2.2.2.2.2.2.2.2.1 ?_
            refine r_int ?_
            refine r_int ?_
            refine r_ast (y := 0) (env' := [(b + 1, (upd (upd u21.2.1 1 0) 2 0)), (b + 3, u21.2.2), (b + 9, f_links_0), (b + 10, f_links_1)]) 0 2 (hn _ _ _ _) rfl hB.2.1 (by decide) rfl (lt_in 2 20 rfl rfl) (lt_cl 2 rfl) rfl rfl ?_
            refine r_int ?_
            exact r_ret rfl rfl (hPQ 1 (upd (upd u21.2.1 1 0) 2 0) u21.2.2 f_links_0 f_links_1 hP)
      · rw [if_neg c7] at hP
        have hO := hO.2 c7
        refine r_aload rfl ?_
        refine r_getr (q := b + 8) hB.1 hB.2.2.2.2.2.2.2.2.2.2.2.2.2.2.1 ?_
        refine r_iload rfl ?_
        refine r_int ?_
        refine r_isub ?_
        obtain ⟨h25, hO⟩ := hO
        by_cases c26 : ((f_reg 2) - 2) = 0
        · rw [if_pos c26] at hP
          have hO := hO.1 c26
          refine r_aldr (q := b + 9) hB.2.2.2.2.1 (Or.inl rfl) h25 (by rw [c26]; exact hB.2.2.2.2.2.2.2.2.2.2.2.2.2.2.2.1) ?_
          refine r_int ?_
          refine r_put (env' := [(b + 1, f_reg), (b + 3, f_memory), (b + 9, (upd f_links_0 9 (-1))), (b + 10, f_links_1)]) 2 (hn _ _ _ _) rfl rfl hB.2.2.2.2.2.2.1 ?_
          refine r_aload rfl ?_
          refine r_getr (q := b + 8) hB.1 hB.2.2.2.2.2.2.2.2.2.2.2.2.2.2.1 ?_
          refine r_iload rfl ?_
          refine r_int ?_
          refine r_isub ?_
          obtain ⟨h27, hO⟩ := hO
          by_cases c28 : ((f_reg 2) - 2) = 0
          · rw [if_pos c28] at hP
            have hO := hO.1 c28
            refine r_aldr (q := b + 9) hB.2.2.2.2.1 (Or.inl rfl) h27 (by rw [c28]; exact hB.2.2.2.2.2.2.2.2.2.2.2.2.2.2.2.1) ?_
            refine r_get (x := f_links_0 7) 2 (hn _ _ _ _) rfl hB.2.2.2.2.2.2.1 (by decide) (pk_un (nebq rfl)) ?_
            refine r_istore (L' := [some (.ref b), some (.int (f_links_0 7)), some (.int (f_reg 2))]) rfl rfl ?_
            refine r_goto ?_
            refine r_aload rfl ?_
            refine r_iload rfl ?_
            have h30 := hO
            have k31 := fun (Q' : Option Int32 → mMH → Prop) hq => tX3_fire (d := d + 1) (B := B) (v := mE v [(b + 1, f_reg), (b + 3, f_memory), (b + 9, (upd f_links_0 9 (-1))), (b + 10, f_links_1)]) (w := w) (Q := Q') hB (by omega) (f_links_0 7) f_reg f_memory h30 hq
            generalize hg_u29 : FX3_fire (f_links_0 7) f_reg f_memory = u29 at k31 hP
            try dsimp only at hP
            refine r_callV (st := []) (o := b) (as := [.int (f_links_0 7)]) (envc := [(b + 1, f_reg), (b + 3, f_memory)]) (envc' := [(b + 1, u29.2.1), (b + 3, u29.2.2)]) (env' := [(b + 1, u29.2.1), (b + 3, u29.2.2), (b + 9, (upd f_links_0 9 (-1))), (b + 10, f_links_1)]) (rv := none) [0, 1] (hn _ _ _ _) rfl rfl (Nat.le_of_ble_eq_true rfl) hB.1 rfl rfl rfl k31 ?_
            show RB _ _ _ _ _ [] _ _
            refine r_aload rfl ?_
            refine r_getr (q := b + 1) hB.1 hB.2.2.2.2.2.2.2.2.2.2.1 ?_
            refine r_int ?_
            refine r_int ?_
            refine r_ast (y := 0) (env' := [(b + 1, (upd u29.2.1 1 0)), (b + 3, u29.2.2), (b + 9, (upd f_links_0 9 (-1))), (b + 10, f_links_1)]) 0 1 (hn _ _ _ _) rfl hB.2.1 (by decide) rfl (lt_in 1 20 rfl rfl) (lt_cl 1 rfl) rfl rfl ?_
            refine r_aload rfl ?_
            refine r_getr (q := b + 1) hB.1 hB.2.2.2.2.2.2.2.2.2.2.1 ?_
            refine r_int ?_
            refine r_int ?_
            refine r_ast (y := 0) (env' := [(b + 1, (upd (upd u29.2.1 1 0) 2 0)), (b + 3, u29.2.2), (b + 9, (upd f_links_0 9 (-1))), (b + 10, f_links_1)]) 0 2 (hn _ _ _ _) rfl hB.2.1 (by decide) rfl (lt_in 2 20 rfl rfl) (lt_cl 2 rfl) rfl rfl ?_
            refine r_int ?_
            exact r_ret rfl rfl (hPQ 1 (upd (upd u29.2.1 1 0) 2 0) u29.2.2 (upd f_links_0 9 (-1)) f_links_1 hP)
          · rw [if_neg c28] at hP
            have hO := hO.2 c28
            refine r_aldr (q := b + 10) hB.2.2.2.2.1 (Or.inl rfl) h27 (by rw [vp2 h27 c28]; exact hB.2.2.2.2.2.2.2.2.2.2.2.2.2.2.2.2) ?_
            refine r_get (x := f_links_1 7) 3 (hn _ _ _ _) rfl hB.2.2.2.2.2.2.2.1 (by decide) rfl ?_
            refine r_istore (L' := [some (.ref b), some (.int (f_links_1 7)), some (.int (f_reg 2))]) rfl rfl ?_
            refine r_goto ?_
            refine r_aload rfl ?_
            refine r_iload rfl ?_
            have h33 := hO
            have k34 := fun (Q' : Option Int32 → mMH → Prop) hq => tX3_fire (d := d + 1) (B := B) (v := mE v [(b + 1, f_reg), (b + 3, f_memory), (b + 9, (upd f_links_0 9 (-1))), (b + 10, f_links_1)]) (w := w) (Q := Q') hB (by omega) (f_links_1 7) f_reg f_memory h33 hq
            generalize hg_u32 : FX3_fire (f_links_1 7) f_reg f_memory = u32 at k34 hP
            try dsimp only at hP
            refine r_callV (st := []) (o := b) (as := [.int (f_links_1 7)]) (envc := [(b + 1, f_reg), (b + 3, f_memory)]) (envc' := [(b + 1, u32.2.1), (b + 3, u32.2.2)]) (env' := [(b + 1, u32.2.1), (b + 3, u32.2.2), (b + 9, (upd f_links_0 9 (-1))), (b + 10, f_links_1)]) (rv := none) [0, 1] (hn _ _ _ _) rfl rfl (Nat.le_of_ble_eq_true rfl) hB.1 rfl rfl rfl k34 ?_
            show RB _ _ _ _ _ [] _ _
            refine r_aload rfl ?_
            refine r_getr (q := b + 1) hB.1 hB.2.2.2.2.2.2.2.2.2.2.1 ?_
            refine r_int ?_
            refine r_int ?_
            refine r_ast (y := 0) (env' := [(b + 1, (upd u32.2.1 1 0)), (b + 3, u32.2.2), (b + 9, (upd f_links_0 9 (-1))), (b + 10, f_links_1)]) 0 1 (hn _ _ _ _) rfl hB.2.1 (by decide) rfl (lt_in 1 20 rfl rfl) (lt_cl 1 rfl) rfl rfl ?_
            refine r_aload rfl ?_
            refine r_getr (q := b + 1) hB.1 hB.2.2.2.2.2.2.2.2.2.2.1 ?_
            refine r_int ?_
            refine r_int ?_
            refine r_ast (y := 0) (env' := [(b + 1, (upd (upd u32.2.1 1 0) 2 0)), (b + 3, u32.2.2), (b + 9, (upd f_links_0 9 (-1))), (b + 10, f_links_1)]) 0 2 (hn _ _ _ _) rfl hB.2.1 (by decide) rfl (lt_in 2 20 rfl rfl) (lt_cl 2 rfl) rfl rfl ?_
            refine r_int ?_
            exact r_ret rfl rfl (hPQ 1 (upd (upd u32.2.1 1 0) 2 0) u32.2.2 (upd f_links_0 9 (-1)) f_links_1 hP)
        · rw [if_neg c26] at hP
          have hO := hO.2 c26
          refine r_aldr (q := b + 10) hB.2.2.2.2.1 (Or.inl rfl) h25 (by rw [vp2 h25 c26]; exact hB.2.2.2.2.2.2.2.2.2.2.2.2.2.2.2.2) ?_
          refine r_int ?_
          refine r_put (env' := [(b + 1, f_reg), (b + 3, f_memory), (b + 9, f_links_0), (b + 10, (upd f_links_1 9 (-1)))]) 3 (hn _ _ _ _) rfl rfl hB.2.2.2.2.2.2.2.1 ?_
          refine r_aload rfl ?_
          refine r_getr (q := b + 8) hB.1 hB.2.2.2.2.2.2.2.2.2.2.2.2.2.2.1 ?_
          refine r_iload rfl ?_
          refine r_int ?_
          refine r_isub ?_
          obtain ⟨h35, hO⟩ := hO
          by_cases c36 : ((f_reg 2) - 2) = 0
          · rw [if_pos c36] at hP
            have hO := hO.1 c36
            refine r_aldr (q := b + 9) hB.2.2.2.2.1 (Or.inl rfl) h35 (by rw [c36]; exact hB.2.2.2.2.2.2.2.2.2.2.2.2.2.2.2.1) ?_
            refine r_get (x := f_links_0 7) 2 (hn _ _ _ _) rfl hB.2.2.2.2.2.2.1 (by decide) rfl ?_
            refine r_istore (L' := [some (.ref b), some (.int (f_links_0 7)), some (.int (f_reg 2))]) rfl rfl ?_
            refine r_goto ?_
            refine r_aload rfl ?_
            refine r_iload rfl ?_
            have h38 := hO
            have k39 := fun (Q' : Option Int32 → mMH → Prop) hq => tX3_fire (d := d + 1) (B := B) (v := mE v [(b + 1, f_reg), (b + 3, f_memory), (b + 9, f_links_0), (b + 10, (upd f_links_1 9 (-1)))]) (w := w) (Q := Q') hB (by omega) (f_links_0 7) f_reg f_memory h38 hq
            generalize hg_u37 : FX3_fire (f_links_0 7) f_reg f_memory = u37 at k39 hP
            try dsimp only at hP
            refine r_callV (st := []) (o := b) (as := [.int (f_links_0 7)]) (envc := [(b + 1, f_reg), (b + 3, f_memory)]) (envc' := [(b + 1, u37.2.1), (b + 3, u37.2.2)]) (env' := [(b + 1, u37.2.1), (b + 3, u37.2.2), (b + 9, f_links_0), (b + 10, (upd f_links_1 9 (-1)))]) (rv := none) [0, 1] (hn _ _ _ _) rfl rfl (Nat.le_of_ble_eq_true rfl) hB.1 rfl rfl rfl k39 ?_
            show RB _ _ _ _ _ [] _ _
            refine r_aload rfl ?_
            refine r_getr (q := b + 1) hB.1 hB.2.2.2.2.2.2.2.2.2.2.1 ?_
            refine r_int ?_
            refine r_int ?_
            refine r_ast (y := 0) (env' := [(b + 1, (upd u37.2.1 1 0)), (b + 3, u37.2.2), (b + 9, f_links_0), (b + 10, (upd f_links_1 9 (-1)))]) 0 1 (hn _ _ _ _) rfl hB.2.1 (by decide) rfl (lt_in 1 20 rfl rfl) (lt_cl 1 rfl) rfl rfl ?_
            refine r_aload rfl ?_
            refine r_getr (q := b + 1) hB.1 hB.2.2.2.2.2.2.2.2.2.2.1 ?_
            refine r_int ?_
            refine r_int ?_
            refine r_ast (y := 0) (env' := [(b + 1, (upd (upd u37.2.1 1 0) 2 0)), (b + 3, u37.2.2), (b + 9, f_links_0), (b + 10, (upd f_links_1 9 (-1)))]) 0 2 (hn _ _ _ _) rfl hB.2.1 (by decide) rfl (lt_in 2 20 rfl rfl) (lt_cl 2 rfl) rfl rfl ?_
            refine r_int ?_
            exact r_ret rfl rfl (hPQ 1 (upd (upd u37.2.1 1 0) 2 0) u37.2.2 f_links_0 (upd f_links_1 9 (-1)) hP)
          · rw [if_neg c36] at hP
            have hO := hO.2 c36
            refine r_aldr (q := b + 10) hB.2.2.2.2.1 (Or.inl rfl) h35 (by rw [vp2 h35 c36]; exact hB.2.2.2.2.2.2.2.2.2.2.2.2.2.2.2.2) ?_
            refine r_get (x := f_links_1 7) 3 (hn _ _ _ _) rfl hB.2.2.2.2.2.2.2.1 (by decide) (pk_un (nebq rfl)) ?_
            refine r_istore (L' := [some (.ref b), some (.int (f_links_1 7)), some (.int (f_reg 2))]) rfl rfl ?_
            refine r_goto ?_
            refine r_aload rfl ?_
            refine r_iload rfl ?_
            have h41 := hO
            have k42 := fun (Q' : Option Int32 → mMH → Prop) hq => tX3_fire (d := d + 1) (B := B) (v := mE v [(b + 1, f_reg), (b + 3, f_memory), (b + 9, f_links_0), (b + 10, (upd f_links_1 9 (-1)))]) (w := w) (Q := Q') hB (by omega) (f_links_1 7) f_reg f_memory h41 hq
            generalize hg_u40 : FX3_fire (f_links_1 7) f_reg f_memory = u40 at k42 hP
            try dsimp only at hP
            refine r_callV (st := []) (o := b) (as := [.int (f_links_1 7)]) (envc := [(b + 1, f_reg), (b + 3, f_memory)]) (envc' := [(b + 1, u40.2.1), (b + 3, u40.2.2)]) (env' := [(b + 1, u40.2.1), (b + 3, u40.2.2), (b + 9, f_links_0), (b + 10, (upd f_links_1 9 (-1)))]) (rv := none) [0, 1] (hn _ _ _ _) rfl rfl (Nat.le_of_ble_eq_true rfl) hB.1 rfl rfl rfl k42 ?_
            show RB _ _ _ _ _ [] _ _
            refine r_aload rfl ?_
            refine r_getr (q := b + 1) hB.1 hB.2.2.2.2.2.2.2.2.2.2.1 ?_
            refine r_int ?_
            refine r_int ?_
            refine r_ast (y := 0) (env' := [(b + 1, (upd u40.2.1 1 0)), (b + 3, u40.2.2), (b + 9, f_links_0), (b + 10, (upd f_links_1 9 (-1)))]) 0 1 (hn _ _ _ _) rfl hB.2.1 (by decide) rfl (lt_in 1 20 rfl rfl) (lt_cl 1 rfl) rfl rfl ?_
            refine r_aload rfl ?_
            refine r_getr (q := b + 1) hB.1 hB.2.2.2.2.2.2.2.2.2.2.1 ?_
            refine r_int ?_
            refine r_int ?_
            refine r_ast (y := 0) (env' := [(b + 1, (upd (upd u40.2.1 1 0) 2 0)), (b + 3, u40.2.2), (b + 9, f_links_0), (b + 10, (upd f_links_1 9 (-1)))]) 0 2 (hn _ _ _ _) rfl hB.2.1 (by decide) rfl (lt_in 2 20 rfl rfl) (lt_cl 2 rfl) rfl rfl ?_
            refine r_int ?_
            exact r_ret rfl rfl (hPQ 1 (upd (upd u40.2.1 1 0) 2 0) u40.2.2 f_links_0 (upd f_links_1 9 (-1)) hP)

def FX3_enableTime (f_reg : mF) (f_memory : mF) : Int32 × mF × mF :=
  if (f_reg 0) = 0 then ((0, (upd f_reg 1 (f_reg 2)), f_memory)) else (if (f_memory (((f_reg 4) - 4 : Int32).toNatClampNeg)) = (-5) then (let g5 := upd f_memory (((f_reg 4) - 4 : Int32).toNatClampNeg) (-6); let g7 := upd g5 (((f_reg 4) - 5 : Int32).toNatClampNeg) (f_reg 1); (0, (upd f_reg 1 (f_reg 2)), g7)) else (let u9 := FX9_isAfter (f_memory (((f_reg 4) - 5 : Int32).toNatClampNeg)) (f_reg 1); if u9 = 0 then ((0, (upd f_reg 1 (f_reg 2)), f_memory)) else (let g12 := upd f_memory (((f_reg 4) - 5 : Int32).toNatClampNeg) (f_reg 1); (0, (upd f_reg 1 (f_reg 2)), g12))))
def OX3_enableTime (f_reg : mF) (f_memory : mF) : Prop :=
  ((f_reg 0) = 0 → True) ∧ (¬ ((f_reg 0) = 0) → (vp_in ((f_reg 4) - 4) 96 ∧ (((f_memory (((f_reg 4) - 4 : Int32).toNatClampNeg)) = (-5) → (vp_in ((f_reg 4) - 4) 96 ∧ (let g5 := upd f_memory (((f_reg 4) - 4 : Int32).toNatClampNeg) (-6); vp_in ((f_reg 4) - 5) 96))) ∧ (¬ ((f_memory (((f_reg 4) - 4 : Int32).toNatClampNeg)) = (-5)) → (vp_in ((f_reg 4) - 5) 96 ∧ ((let u9 := FX9_isAfter (f_memory (((f_reg 4) - 5 : Int32).toNatClampNeg)) (f_reg 1); (u9 = 0 → True) ∧ (¬ (u9 = 0) → (vp_in ((f_reg 4) - 5) 96)))))))))
set_option maxRecDepth 20000 in
theorem tX3_enableTime {d : Nat} {B : mB} {v : mV} {w : mX} {Q : Option Int32 → mMH → Prop} {b g : Nat} (hB : isMach B b g) (hd : g + 2 ≤ b) (f_reg : mF) (f_memory : mF) (hO : OX3_enableTime f_reg f_memory) (hQ : Q (none) (mH B (mE v [(b + 1, (FX3_enableTime f_reg f_memory).2.1), (b + 3, (FX3_enableTime f_reg f_memory).2.2)]) w)) : CQ (d + 2) 65 [.ref b] (mH B (mE v [(b + 1, f_reg), (b + 3, f_memory)]) w) Q := by
  have hn : ∀ (f_reg : mF) (f_memory : mF), mNd [(b + 1, f_reg), (b + 3, f_memory)] := fun _ _ => by
    show List.Nodup _
    simp only [List.map_cons, List.map_nil, List.nodup_cons, List.mem_cons, List.not_mem_nil, or_false, not_or, not_false_eq_true, List.nodup_nil, and_true]
    omega
  obtain ⟨P, hPQ, hP⟩ : ∃ P : Int32 × mF × mF → Prop, (∀ (q : Int32) (q0 : mF) (q1 : mF), P (q, q0, q1) → Q (none) (mH B (mE v [(b + 1, q0), (b + 3, q1)]) w)) ∧ P (FX3_enableTime f_reg f_memory) := ⟨fun res => Q (none) (mH B (mE v [(b + 1, res.2.1), (b + 3, res.2.2)]) w), fun _ _ _ h => h, hQ⟩
  refine r_begin mt_65 (by intro a ha; simp only [List.mem_cons, List.not_mem_nil, or_false] at ha; rcases ha with rfl <;> rfl) (Nat.le_of_ble_eq_true rfl) ?_
  rw [FX3_enableTime] at hP
  rw [OX3_enableTime] at hO
  show RB _ _ _ _ [some (.ref b), none] [] _ _
  refine r_aload rfl ?_
  refine r_getr (q := b + 1) hB.1 hB.2.2.2.2.2.2.2.2.2.2.1 ?_
  refine r_int ?_
  refine r_ald (x := f_reg 4) 0 4 (hn _ _) rfl hB.2.1 (by decide) rfl (lt_in 4 20 rfl rfl) (lt_cl 4 rfl) rfl ?_
  refine r_istore (L' := [some (.ref b), some (.int (f_reg 4))]) rfl rfl ?_
  refine r_aload rfl ?_
  refine r_getr (q := b + 1) hB.1 hB.2.2.2.2.2.2.2.2.2.2.1 ?_
  refine r_int ?_
  refine r_ald (x := f_reg 0) 0 0 (hn _ _) rfl hB.2.1 (by decide) rfl (lt_in 0 20 rfl rfl) (lt_cl 0 rfl) rfl ?_
  refine r_if (fun c1 : (f_reg 0) = 0 => ?_) (fun c1 : ¬ ((f_reg 0) = 0) => ?_)
  · rw [if_pos c1] at hP
    have hO := hO.1 c1
    refine r_aload rfl ?_
    refine r_getr (q := b + 1) hB.1 hB.2.2.2.2.2.2.2.2.2.2.1 ?_
    refine r_int ?_
    refine r_aload rfl ?_
    refine r_getr (q := b + 1) hB.1 hB.2.2.2.2.2.2.2.2.2.2.1 ?_
    refine r_int ?_
    refine r_ald (x := f_reg 2) 0 2 (hn _ _) rfl hB.2.1 (by decide) rfl (lt_in 2 20 rfl rfl) (lt_cl 2 rfl) rfl ?_
    refine r_ast (y := f_reg 2) (env' := [(b + 1, (upd f_reg 1 (f_reg 2))), (b + 3, f_memory)]) 0 1 (hn _ _) rfl hB.2.1 (by decide) rfl (lt_in 1 20 rfl rfl) (lt_cl 1 rfl) rfl rfl ?_
    exact r_retv rfl (hPQ 0 (upd f_reg 1 (f_reg 2)) f_memory hP)
  · rw [if_neg c1] at hP
    have hO := hO.2 c1
    refine r_aload rfl ?_
    refine r_getr (q := b + 3) hB.1 hB.2.2.2.2.2.2.2.2.2.2.2.2.1 ?_
    refine r_iload rfl ?_
    refine r_int ?_
    refine r_isub ?_
    obtain ⟨h2, hO⟩ := hO
    refine r_ald (x := f_memory (((f_reg 4) - 4 : Int32).toNatClampNeg)) 1 (((f_reg 4) - 4 : Int32).toNatClampNeg) (hn _ _) rfl hB.2.2.2.1 (by decide) rfl h2 rfl rfl ?_
    refine r_int ?_
    refine r_icmp1 (fun c3 : (f_memory (((f_reg 4) - 4 : Int32).toNatClampNeg)) = (-5) => ?_) (fun c3 : ¬ ((f_memory (((f_reg 4) - 4 : Int32).toNatClampNeg)) = (-5)) => ?_)
    · rw [if_pos c3] at hP
      have hO := hO.1 c3
      refine r_aload rfl ?_
      refine r_getr (q := b + 3) hB.1 hB.2.2.2.2.2.2.2.2.2.2.2.2.1 ?_
      refine r_iload rfl ?_
      refine r_int ?_
      refine r_isub ?_
      refine r_int ?_
      obtain ⟨h4, hO⟩ := hO
      refine r_ast (y := (-6)) (env' := [(b + 1, f_reg), (b + 3, (upd f_memory (((f_reg 4) - 4 : Int32).toNatClampNeg) (-6)))]) 1 (((f_reg 4) - 4 : Int32).toNatClampNeg) (hn _ _) rfl hB.2.2.2.1 (by decide) rfl h4 rfl rfl rfl ?_
      generalize hg_g5 : upd f_memory (((f_reg 4) - 4 : Int32).toNatClampNeg) (-6) = g5 at hP hO ⊢
      try dsimp only at hP hO
      refine r_aload rfl ?_
      refine r_getr (q := b + 3) hB.1 hB.2.2.2.2.2.2.2.2.2.2.2.2.1 ?_
      refine r_iload rfl ?_
      refine r_int ?_
      refine r_isub ?_
      refine r_aload rfl ?_
      refine r_getr (q := b + 1) hB.1 hB.2.2.2.2.2.2.2.2.2.2.1 ?_
      refine r_int ?_
      refine r_ald (x := f_reg 1) 0 1 (hn _ _) rfl hB.2.1 (by decide) rfl (lt_in 1 20 rfl rfl) (lt_cl 1 rfl) rfl ?_
      have h6 := hO
      refine r_ast (y := f_reg 1) (env' := [(b + 1, f_reg), (b + 3, (upd g5 (((f_reg 4) - 5 : Int32).toNatClampNeg) (f_reg 1)))]) 1 (((f_reg 4) - 5 : Int32).toNatClampNeg) (hn _ _) rfl hB.2.2.2.1 (by decide) rfl h6 rfl rfl rfl ?_
      generalize hg_g7 : upd g5 (((f_reg 4) - 5 : Int32).toNatClampNeg) (f_reg 1) = g7 at hP ⊢
      try dsimp only at hP
      refine r_goto ?_
      refine r_aload rfl ?_
      refine r_getr (q := b + 1) hB.1 hB.2.2.2.2.2.2.2.2.2.2.1 ?_
      refine r_int ?_
      refine r_aload rfl ?_
      refine r_getr (q := b + 1) hB.1 hB.2.2.2.2.2.2.2.2.2.2.1 ?_
      refine r_int ?_
      refine r_ald (x := f_reg 2) 0 2 (hn _ _) rfl hB.2.1 (by decide) rfl (lt_in 2 20 rfl rfl) (lt_cl 2 rfl) rfl ?_
      refine r_ast (y := f_reg 2) (env' := [(b + 1, (upd f_reg 1 (f_reg 2))), (b + 3, g7)]) 0 1 (hn _ _) rfl hB.2.1 (by decide) rfl (lt_in 1 20 rfl rfl) (lt_cl 1 rfl) rfl rfl ?_
      exact r_retv rfl (hPQ 0 (upd f_reg 1 (f_reg 2)) g7 hP)
    · rw [if_neg c3] at hP
      have hO := hO.2 c3
      refine r_aload rfl ?_
      refine r_getr (q := b + 3) hB.1 hB.2.2.2.2.2.2.2.2.2.2.2.2.1 ?_
      refine r_iload rfl ?_
      refine r_int ?_
      refine r_isub ?_
      obtain ⟨h8, hO⟩ := hO
      refine r_ald (x := f_memory (((f_reg 4) - 5 : Int32).toNatClampNeg)) 1 (((f_reg 4) - 5 : Int32).toNatClampNeg) (hn _ _) rfl hB.2.2.2.1 (by decide) rfl h8 rfl rfl ?_
      refine r_aload rfl ?_
      refine r_getr (q := b + 1) hB.1 hB.2.2.2.2.2.2.2.2.2.2.1 ?_
      refine r_int ?_
      refine r_ald (x := f_reg 1) 0 1 (hn _ _) rfl hB.2.1 (by decide) rfl (lt_in 1 20 rfl rfl) (lt_cl 1 rfl) rfl ?_
      have k13 := fun (Q' : Option Int32 → mMH → Prop) hq => tX9_isAfter (d := d + 0) (B := B) (v := mE v [(b + 1, f_reg), (b + 3, f_memory)]) (w := w) (Q := Q') (f_memory (((f_reg 4) - 5 : Int32).toNatClampNeg)) (f_reg 1) hq
      generalize hg_u9 : FX9_isAfter (f_memory (((f_reg 4) - 5 : Int32).toNatClampNeg)) (f_reg 1) = u9 at k13 hP hO
      try dsimp only at hP hO
      refine r_callS (st := []) (as := [.int (f_memory (((f_reg 4) - 5 : Int32).toNatClampNeg)), .int (f_reg 1)]) (envc := []) (envc' := []) (env' := [(b + 1, f_reg), (b + 3, f_memory)]) (rv := some u9) [] (Or.inr rfl) (hn _ _) rfl rfl (Nat.le_of_ble_eq_true rfl) rfl rfl rfl k13 ?_
      show RB _ _ _ _ _ [.int u9] _ _
      refine r_if (fun c10 : u9 = 0 => ?_) (fun c10 : ¬ (u9 = 0) => ?_)
      · rw [if_pos c10] at hP
        have hO := hO.1 c10
        refine r_aload rfl ?_
        refine r_getr (q := b + 1) hB.1 hB.2.2.2.2.2.2.2.2.2.2.1 ?_
        refine r_int ?_
        refine r_aload rfl ?_
        refine r_getr (q := b + 1) hB.1 hB.2.2.2.2.2.2.2.2.2.2.1 ?_
        refine r_int ?_
        refine r_ald (x := f_reg 2) 0 2 (hn _ _) rfl hB.2.1 (by decide) rfl (lt_in 2 20 rfl rfl) (lt_cl 2 rfl) rfl ?_
        refine r_ast (y := f_reg 2) (env' := [(b + 1, (upd f_reg 1 (f_reg 2))), (b + 3, f_memory)]) 0 1 (hn _ _) rfl hB.2.1 (by decide) rfl (lt_in 1 20 rfl rfl) (lt_cl 1 rfl) rfl rfl ?_
        exact r_retv rfl (hPQ 0 (upd f_reg 1 (f_reg 2)) f_memory hP)
      · rw [if_neg c10] at hP
        have hO := hO.2 c10
        refine r_aload rfl ?_
        refine r_getr (q := b + 3) hB.1 hB.2.2.2.2.2.2.2.2.2.2.2.2.1 ?_
        refine r_iload rfl ?_
        refine r_int ?_
        refine r_isub ?_
        refine r_aload rfl ?_
        refine r_getr (q := b + 1) hB.1 hB.2.2.2.2.2.2.2.2.2.2.1 ?_
        refine r_int ?_
        refine r_ald (x := f_reg 1) 0 1 (hn _ _) rfl hB.2.1 (by decide) rfl (lt_in 1 20 rfl rfl) (lt_cl 1 rfl) rfl ?_
        have h11 := hO
        refine r_ast (y := f_reg 1) (env' := [(b + 1, f_reg), (b + 3, (upd f_memory (((f_reg 4) - 5 : Int32).toNatClampNeg) (f_reg 1)))]) 1 (((f_reg 4) - 5 : Int32).toNatClampNeg) (hn _ _) rfl hB.2.2.2.1 (by decide) rfl h11 rfl rfl rfl ?_
        generalize hg_g12 : upd f_memory (((f_reg 4) - 5 : Int32).toNatClampNeg) (f_reg 1) = g12 at hP ⊢
        try dsimp only at hP
        refine r_fall ?_
        refine r_aload rfl ?_
        refine r_getr (q := b + 1) hB.1 hB.2.2.2.2.2.2.2.2.2.2.1 ?_
        refine r_int ?_
        refine r_aload rfl ?_
        refine r_getr (q := b + 1) hB.1 hB.2.2.2.2.2.2.2.2.2.2.1 ?_
        refine r_int ?_
        refine r_ald (x := f_reg 2) 0 2 (hn _ _) rfl hB.2.1 (by decide) rfl (lt_in 2 20 rfl rfl) (lt_cl 2 rfl) rfl ?_
        refine r_ast (y := f_reg 2) (env' := [(b + 1, (upd f_reg 1 (f_reg 2))), (b + 3, g12)]) 0 1 (hn _ _) rfl hB.2.1 (by decide) rfl (lt_in 1 20 rfl rfl) (lt_cl 1 rfl) rfl rfl ?_
        exact r_retv rfl (hPQ 0 (upd f_reg 1 (f_reg 2)) g12 hP)

def FX3_performOnGuards (x1 : Int32) (f_reg : mF) (f_memory : mF) (f_timers : mF) (f_timers_process : mF) (f_timers_time : mF) (f_timers_isBy : mF) (f_links_0 : mF) (f_links_1 : mF) : Int32 × mF × mF × mF × mF × mF × mF × mF × mF :=
  if x1 = 27 then (let g2 := upd f_memory (((f_reg 4) - 3 : Int32).toNatClampNeg) (-2); (1, f_reg, g2, f_timers, f_timers_process, f_timers_time, f_timers_isBy, f_links_0, f_links_1)) else (if x1 = 28 then (let u3 := FX3_waitForGuard f_reg f_memory; (u3.1, u3.2.1, u3.2.2, f_timers, f_timers_process, f_timers_time, f_timers_isBy, f_links_0, f_links_1)) else (if x1 = 29 then ((1, (upd f_reg 3 (f_memory ((f_reg 4 : Int32).toNatClampNeg))), f_memory, f_timers, f_timers_process, f_timers_time, f_timers_isBy, f_links_0, f_links_1)) else (if x1 = 30 then (let u7 := FX3_enableChannel f_reg f_memory f_links_0 f_links_1; (u7.1, u7.2.1, u7.2.2.1, f_timers, f_timers_process, f_timers_time, f_timers_isBy, u7.2.2.2.1, u7.2.2.2.2)) else (if x1 = 31 then (let u10 := FX3_disableChannel f_reg f_memory f_links_0 f_links_1; (u10.1, u10.2.1, u10.2.2.1, f_timers, f_timers_process, f_timers_time, f_timers_isBy, u10.2.2.2.1, u10.2.2.2.2)) else (if x1 = 32 then (if (f_reg 0) = 0 then ((1, f_reg, f_memory, f_timers, f_timers_process, f_timers_time, f_timers_isBy, f_links_0, f_links_1)) else (let g15 := upd f_memory (((f_reg 4) - 3 : Int32).toNatClampNeg) (-4); (1, f_reg, g15, f_timers, f_timers_process, f_timers_time, f_timers_isBy, f_links_0, f_links_1))) else (if x1 = 33 then (if (f_reg 1) = 0 then (let u17 := FX3_fire 0 f_reg f_memory; (1, (upd u17.2.1 1 (u17.2.1 2)), u17.2.2, f_timers, f_timers_process, f_timers_time, f_timers_isBy, f_links_0, f_links_1)) else (let u20 := FX3_fire 1 f_reg f_memory; (1, (upd u20.2.1 1 (u20.2.1 2)), u20.2.2, f_timers, f_timers_process, f_timers_time, f_timers_isBy, f_links_0, f_links_1))) else (if x1 = 34 then (let g24 := upd f_memory (((f_reg 4) - 3 : Int32).toNatClampNeg) (-2); let g26 := upd g24 (((f_reg 4) - 4 : Int32).toNatClampNeg) (-5); (1, f_reg, g26, f_timers, f_timers_process, f_timers_time, f_timers_isBy, f_links_0, f_links_1)) else (if x1 = 35 then (let u27 := FX3_waitForGuardOrTime f_reg f_memory f_timers f_timers_process f_timers_time f_timers_isBy; (u27.1, u27.2.1, u27.2.2.1, u27.2.2.2.1, u27.2.2.2.2.1, u27.2.2.2.2.2.1, u27.2.2.2.2.2.2, f_links_0, f_links_1)) else (if x1 = 36 then (let u30 := FX3_enableTime f_reg f_memory; (1, u30.2.1, u30.2.2, f_timers, f_timers_process, f_timers_time, f_timers_isBy, f_links_0, f_links_1)) else (if x1 = 37 then (if (f_reg 1) = 0 then (let u34 := FX3_fire 0 f_reg f_memory; (1, (upd (upd u34.2.1 1 0) 2 0), u34.2.2, f_timers, f_timers_process, f_timers_time, f_timers_isBy, f_links_0, f_links_1)) else (if (f_memory (((f_reg 4) - 4 : Int32).toNatClampNeg)) = (-6) then (let u40 := FX9_isAfter (f_memory (((f_reg 4) - 5 : Int32).toNatClampNeg)) (f_reg 2); if u40 = 0 then (let u42 := FX3_fire 0 f_reg f_memory; (1, (upd (upd u42.2.1 1 0) 2 0), u42.2.2, f_timers, f_timers_process, f_timers_time, f_timers_isBy, f_links_0, f_links_1)) else (let u45 := FX3_fire 1 f_reg f_memory; (1, (upd (upd u45.2.1 1 0) 2 0), u45.2.2, f_timers, f_timers_process, f_timers_time, f_timers_isBy, f_links_0, f_links_1))) else (let u49 := FX3_fire 0 f_reg f_memory; (1, (upd (upd u49.2.1 1 0) 2 0), u49.2.2, f_timers, f_timers_process, f_timers_time, f_timers_isBy, f_links_0, f_links_1)))) else ((0, f_reg, f_memory, f_timers, f_timers_process, f_timers_time, f_timers_isBy, f_links_0, f_links_1))))))))))))
def OX3_performOnGuards (x1 : Int32) (f_reg : mF) (f_memory : mF) (f_timers : mF) (f_timers_process : mF) (f_timers_time : mF) (f_timers_isBy : mF) (f_links_0 : mF) (f_links_1 : mF) : Prop :=
  ((x1 = 27 → (vp_in ((f_reg 4) - 3) 96)) ∧ (¬ (x1 = 27) → ((x1 = 28 → (OX3_waitForGuard f_reg f_memory ∧ (let u3 := FX3_waitForGuard f_reg f_memory; u3.1 = 0 ∨ u3.1 = 1))) ∧ (¬ (x1 = 28) → ((x1 = 29 → (vp_in (f_reg 4) 96)) ∧ (¬ (x1 = 29) → ((x1 = 30 → (OX3_enableChannel f_reg f_memory f_links_0 f_links_1 ∧ (let u7 := FX3_enableChannel f_reg f_memory f_links_0 f_links_1; u7.1 = 0 ∨ u7.1 = 1))) ∧ (¬ (x1 = 30) → ((x1 = 31 → (OX3_disableChannel f_reg f_memory f_links_0 f_links_1 ∧ (let u10 := FX3_disableChannel f_reg f_memory f_links_0 f_links_1; u10.1 = 0 ∨ u10.1 = 1))) ∧ (¬ (x1 = 31) → ((x1 = 32 → (((f_reg 0) = 0 → True) ∧ (¬ ((f_reg 0) = 0) → (vp_in ((f_reg 4) - 3) 96)))) ∧ (¬ (x1 = 32) → ((x1 = 33 → (((f_reg 1) = 0 → (OX3_fire 0 f_reg f_memory)) ∧ (¬ ((f_reg 1) = 0) → (OX3_fire 1 f_reg f_memory)))) ∧ (¬ (x1 = 33) → ((x1 = 34 → (vp_in ((f_reg 4) - 3) 96 ∧ (let g24 := upd f_memory (((f_reg 4) - 3 : Int32).toNatClampNeg) (-2); vp_in ((f_reg 4) - 4) 96))) ∧ (¬ (x1 = 34) → ((x1 = 35 → (OX3_waitForGuardOrTime f_reg f_memory f_timers f_timers_process f_timers_time f_timers_isBy ∧ (let u27 := FX3_waitForGuardOrTime f_reg f_memory f_timers f_timers_process f_timers_time f_timers_isBy; u27.1 = 0 ∨ u27.1 = 1))) ∧ (¬ (x1 = 35) → ((x1 = 36 → (OX3_enableTime f_reg f_memory)) ∧ (¬ (x1 = 36) → ((x1 = 37 → (((f_reg 1) = 0 → (OX3_fire 0 f_reg f_memory)) ∧ (¬ ((f_reg 1) = 0) → (vp_in ((f_reg 4) - 4) 96 ∧ (((f_memory (((f_reg 4) - 4 : Int32).toNatClampNeg)) = (-6) → (vp_in ((f_reg 4) - 5) 96 ∧ ((let u40 := FX9_isAfter (f_memory (((f_reg 4) - 5 : Int32).toNatClampNeg)) (f_reg 2); (u40 = 0 → (OX3_fire 0 f_reg f_memory)) ∧ (¬ (u40 = 0) → (OX3_fire 1 f_reg f_memory)))))) ∧ (¬ ((f_memory (((f_reg 4) - 4 : Int32).toNatClampNeg)) = (-6)) → (OX3_fire 0 f_reg f_memory))))))) ∧ (¬ (x1 = 37) → True))))))))))))))))))))))
set_option maxRecDepth 20000 in
theorem tX3_performOnGuards {d : Nat} {B : mB} {v : mV} {w : mX} {Q : Option Int32 → mMH → Prop} {b g : Nat} (hB : isMach B b g) (hd : g + 2 ≤ b) (x1 : Int32) (f_reg : mF) (f_memory : mF) (f_timers : mF) (f_timers_process : mF) (f_timers_time : mF) (f_timers_isBy : mF) (f_links_0 : mF) (f_links_1 : mF) (hO : OX3_performOnGuards x1 f_reg f_memory f_timers f_timers_process f_timers_time f_timers_isBy f_links_0 f_links_1) (hQ : Q (some ((FX3_performOnGuards x1 f_reg f_memory f_timers f_timers_process f_timers_time f_timers_isBy f_links_0 f_links_1).1)) (mH B (mE v [(b + 1, (FX3_performOnGuards x1 f_reg f_memory f_timers f_timers_process f_timers_time f_timers_isBy f_links_0 f_links_1).2.1), (b + 3, (FX3_performOnGuards x1 f_reg f_memory f_timers f_timers_process f_timers_time f_timers_isBy f_links_0 f_links_1).2.2.1), (b + 4, (FX3_performOnGuards x1 f_reg f_memory f_timers f_timers_process f_timers_time f_timers_isBy f_links_0 f_links_1).2.2.2.1), (b + 4 + 1, (FX3_performOnGuards x1 f_reg f_memory f_timers f_timers_process f_timers_time f_timers_isBy f_links_0 f_links_1).2.2.2.2.1), (b + 4 + 2, (FX3_performOnGuards x1 f_reg f_memory f_timers f_timers_process f_timers_time f_timers_isBy f_links_0 f_links_1).2.2.2.2.2.1), (b + 4 + 3, (FX3_performOnGuards x1 f_reg f_memory f_timers f_timers_process f_timers_time f_timers_isBy f_links_0 f_links_1).2.2.2.2.2.2.1), (b + 9, (FX3_performOnGuards x1 f_reg f_memory f_timers f_timers_process f_timers_time f_timers_isBy f_links_0 f_links_1).2.2.2.2.2.2.2.1), (b + 10, (FX3_performOnGuards x1 f_reg f_memory f_timers f_timers_process f_timers_time f_timers_isBy f_links_0 f_links_1).2.2.2.2.2.2.2.2)]) w)) : CQ (d + 4) 57 [.ref b, .int x1] (mH B (mE v [(b + 1, f_reg), (b + 3, f_memory), (b + 4, f_timers), (b + 4 + 1, f_timers_process), (b + 4 + 2, f_timers_time), (b + 4 + 3, f_timers_isBy), (b + 9, f_links_0), (b + 10, f_links_1)]) w) Q := by
  have hn : ∀ (f_reg : mF) (f_memory : mF) (f_timers : mF) (f_timers_process : mF) (f_timers_time : mF) (f_timers_isBy : mF) (f_links_0 : mF) (f_links_1 : mF), mNd [(b + 1, f_reg), (b + 3, f_memory), (b + 4, f_timers), (b + 4 + 1, f_timers_process), (b + 4 + 2, f_timers_time), (b + 4 + 3, f_timers_isBy), (b + 9, f_links_0), (b + 10, f_links_1)] := fun _ _ _ _ _ _ _ _ => by
    show List.Nodup _
    simp only [List.map_cons, List.map_nil, List.nodup_cons, List.mem_cons, List.not_mem_nil, or_false, not_or, not_false_eq_true, List.nodup_nil, and_true]
    omega
  obtain ⟨P, hPQ, hP⟩ : ∃ P : Int32 × mF × mF × mF × mF × mF × mF × mF × mF → Prop, (∀ (q : Int32) (q0 : mF) (q1 : mF) (q2 : mF) (q3 : mF) (q4 : mF) (q5 : mF) (q6 : mF) (q7 : mF), P (q, q0, q1, q2, q3, q4, q5, q6, q7) → Q (some q) (mH B (mE v [(b + 1, q0), (b + 3, q1), (b + 4, q2), (b + 4 + 1, q3), (b + 4 + 2, q4), (b + 4 + 3, q5), (b + 9, q6), (b + 10, q7)]) w)) ∧ P (FX3_performOnGuards x1 f_reg f_memory f_timers f_timers_process f_timers_time f_timers_isBy f_links_0 f_links_1) := ⟨fun res => Q (some res.1) (mH B (mE v [(b + 1, res.2.1), (b + 3, res.2.2.1), (b + 4, res.2.2.2.1), (b + 4 + 1, res.2.2.2.2.1), (b + 4 + 2, res.2.2.2.2.2.1), (b + 4 + 3, res.2.2.2.2.2.2.1), (b + 9, res.2.2.2.2.2.2.2.1), (b + 10, res.2.2.2.2.2.2.2.2)]) w), fun _ _ _ _ _ _ _ _ _ h => h, hQ⟩
  refine r_begin mt_57 (by intro a ha; simp only [List.mem_cons, List.not_mem_nil, or_false] at ha; rcases ha with rfl | rfl <;> rfl) (Nat.le_of_ble_eq_true rfl) ?_
  rw [FX3_performOnGuards] at hP
  rw [OX3_performOnGuards] at hO
  show RB _ _ _ _ [some (.ref b), some (.int x1), none] [] _ _
  refine r_aload rfl ?_
  refine r_getr (q := b + 1) hB.1 hB.2.2.2.2.2.2.2.2.2.2.1 ?_
  refine r_int ?_
  refine r_ald (x := f_reg 4) 0 4 (hn _ _ _ _ _ _ _ _) rfl hB.2.1 (by decide) rfl (lt_in 4 20 rfl rfl) (lt_cl 4 rfl) rfl ?_
  refine r_istore (L' := [some (.ref b), some (.int x1), some (.int (f_reg 4))]) rfl rfl ?_
  refine r_iload rfl ?_
  by_cases c52 : x1 = 27
  · rw [if_pos c52] at hP
    have hO := hO.1 c52
    refine r_tswAt (k := 0) (b := 1) rfl (by rw [c52]; decide) ?_
    refine r_aload rfl ?_
    refine r_getr (q := b + 3) hB.1 hB.2.2.2.2.2.2.2.2.2.2.2.2.1 ?_
    refine r_iload rfl ?_
    refine r_int ?_
    refine r_isub ?_
    refine r_int ?_
    have h1 := hO
    refine r_ast (y := (-2)) (env' := [(b + 1, f_reg), (b + 3, (upd f_memory (((f_reg 4) - 3 : Int32).toNatClampNeg) (-2))), (b + 4, f_timers), (b + 4 + 1, f_timers_process), (b + 4 + 2, f_timers_time), (b + 4 + 3, f_timers_isBy), (b + 9, f_links_0), (b + 10, f_links_1)]) 1 (((f_reg 4) - 3 : Int32).toNatClampNeg) (hn _ _ _ _ _ _ _ _) rfl hB.2.2.2.1 (by decide) rfl h1 rfl rfl rfl ?_
    generalize hg_g2 : upd f_memory (((f_reg 4) - 3 : Int32).toNatClampNeg) (-2) = g2 at hP ⊢
    try dsimp only at hP
    refine r_int ?_
    exact r_ret rfl rfl (hPQ 1 f_reg g2 f_timers f_timers_process f_timers_time f_timers_isBy f_links_0 f_links_1 hP)
  · rw [if_neg c52] at hP
    have hO := hO.2 c52
    by_cases c53 : x1 = 28
    · rw [if_pos c53] at hP
      have hO := hO.1 c53
      refine r_tswAt (k := 1) (b := 3) rfl (by rw [c53]; decide) ?_
      refine r_aload rfl ?_
      obtain ⟨h4, hO⟩ := hO
      have k5 := fun (Q' : Option Int32 → mMH → Prop) hq => tX3_waitForGuard (d := d + 1) (B := B) (v := mE v [(b + 1, f_reg), (b + 3, f_memory), (b + 4, f_timers), (b + 4 + 1, f_timers_process), (b + 4 + 2, f_timers_time), (b + 4 + 3, f_timers_isBy), (b + 9, f_links_0), (b + 10, f_links_1)]) (w := w) (Q := Q') hB (by omega) f_reg f_memory h4 hq
      generalize hg_u3 : FX3_waitForGuard f_reg f_memory = u3 at k5 hP hO
      try dsimp only at hP hO
      refine r_callV (st := []) (o := b) (as := []) (envc := [(b + 1, f_reg), (b + 3, f_memory)]) (envc' := [(b + 1, u3.2.1), (b + 3, u3.2.2)]) (env' := [(b + 1, u3.2.1), (b + 3, u3.2.2), (b + 4, f_timers), (b + 4 + 1, f_timers_process), (b + 4 + 2, f_timers_time), (b + 4 + 3, f_timers_isBy), (b + 9, f_links_0), (b + 10, f_links_1)]) (rv := some u3.1) [0, 1] (hn _ _ _ _ _ _ _ _) rfl rfl (Nat.le_of_ble_eq_true rfl) hB.1 rfl rfl rfl k5 ?_
      show RB _ _ _ _ _ [.int u3.1] _ _
      exact r_ret rfl (nz_ok hO) (hPQ u3.1 u3.2.1 u3.2.2 f_timers f_timers_process f_timers_time f_timers_isBy f_links_0 f_links_1 hP)
    · rw [if_neg c53] at hP
      have hO := hO.2 c53
      by_cases c54 : x1 = 29
      · rw [if_pos c54] at hP
        have hO := hO.1 c54
        refine r_tswAt (k := 2) (b := 5) rfl (by rw [c54]; decide) ?_
        refine r_aload rfl ?_
        refine r_getr (q := b + 1) hB.1 hB.2.2.2.2.2.2.2.2.2.2.1 ?_
        refine r_int ?_
        refine r_aload rfl ?_
        refine r_getr (q := b + 3) hB.1 hB.2.2.2.2.2.2.2.2.2.2.2.2.1 ?_
        refine r_iload rfl ?_
        have h6 := hO
        refine r_ald (x := f_memory ((f_reg 4 : Int32).toNatClampNeg)) 1 ((f_reg 4 : Int32).toNatClampNeg) (hn _ _ _ _ _ _ _ _) rfl hB.2.2.2.1 (by decide) rfl h6 rfl rfl ?_
        refine r_ast (y := f_memory ((f_reg 4 : Int32).toNatClampNeg)) (env' := [(b + 1, (upd f_reg 3 (f_memory ((f_reg 4 : Int32).toNatClampNeg)))), (b + 3, f_memory), (b + 4, f_timers), (b + 4 + 1, f_timers_process), (b + 4 + 2, f_timers_time), (b + 4 + 3, f_timers_isBy), (b + 9, f_links_0), (b + 10, f_links_1)]) 0 3 (hn _ _ _ _ _ _ _ _) rfl hB.2.1 (by decide) rfl (lt_in 3 20 rfl rfl) (lt_cl 3 rfl) rfl rfl ?_
        refine r_int ?_
        exact r_ret rfl rfl (hPQ 1 (upd f_reg 3 (f_memory ((f_reg 4 : Int32).toNatClampNeg))) f_memory f_timers f_timers_process f_timers_time f_timers_isBy f_links_0 f_links_1 hP)
      · rw [if_neg c54] at hP
        have hO := hO.2 c54
        by_cases c55 : x1 = 30
        · rw [if_pos c55] at hP
          have hO := hO.1 c55
          refine r_tswAt (k := 3) (b := 6) rfl (by rw [c55]; decide) ?_
          refine r_aload rfl ?_
          obtain ⟨h8, hO⟩ := hO
          have k9 := fun (Q' : Option Int32 → mMH → Prop) hq => tX3_enableChannel (d := d + 0) (B := B) (v := mE v [(b + 1, f_reg), (b + 3, f_memory), (b + 4, f_timers), (b + 4 + 1, f_timers_process), (b + 4 + 2, f_timers_time), (b + 4 + 3, f_timers_isBy), (b + 9, f_links_0), (b + 10, f_links_1)]) (w := w) (Q := Q') hB (by omega) f_reg f_memory f_links_0 f_links_1 h8 hq
          generalize hg_u7 : FX3_enableChannel f_reg f_memory f_links_0 f_links_1 = u7 at k9 hP hO
          try dsimp only at hP hO
          refine r_callV (st := []) (o := b) (as := []) (envc := [(b + 1, f_reg), (b + 3, f_memory), (b + 9, f_links_0), (b + 10, f_links_1)]) (envc' := [(b + 1, u7.2.1), (b + 3, u7.2.2.1), (b + 9, u7.2.2.2.1), (b + 10, u7.2.2.2.2)]) (env' := [(b + 1, u7.2.1), (b + 3, u7.2.2.1), (b + 4, f_timers), (b + 4 + 1, f_timers_process), (b + 4 + 2, f_timers_time), (b + 4 + 3, f_timers_isBy), (b + 9, u7.2.2.2.1), (b + 10, u7.2.2.2.2)]) (rv := some u7.1) [0, 1, 6, 7] (hn _ _ _ _ _ _ _ _) rfl rfl (Nat.le_of_ble_eq_true rfl) hB.1 rfl rfl rfl k9 ?_
          show RB _ _ _ _ _ [.int u7.1] _ _
          exact r_ret rfl (nz_ok hO) (hPQ u7.1 u7.2.1 u7.2.2.1 f_timers f_timers_process f_timers_time f_timers_isBy u7.2.2.2.1 u7.2.2.2.2 hP)
        · rw [if_neg c55] at hP
          have hO := hO.2 c55
          by_cases c56 : x1 = 31
          · rw [if_pos c56] at hP
            have hO := hO.1 c56
            refine r_tswAt (k := 4) (b := 7) rfl (by rw [c56]; decide) ?_
            refine r_aload rfl ?_
            obtain ⟨h11, hO⟩ := hO
            have k12 := fun (Q' : Option Int32 → mMH → Prop) hq => tX3_disableChannel (d := d + 0) (B := B) (v := mE v [(b + 1, f_reg), (b + 3, f_memory), (b + 4, f_timers), (b + 4 + 1, f_timers_process), (b + 4 + 2, f_timers_time), (b + 4 + 3, f_timers_isBy), (b + 9, f_links_0), (b + 10, f_links_1)]) (w := w) (Q := Q') hB (by omega) f_reg f_memory f_links_0 f_links_1 h11 hq
            generalize hg_u10 : FX3_disableChannel f_reg f_memory f_links_0 f_links_1 = u10 at k12 hP hO
            try dsimp only at hP hO
            refine r_callV (st := []) (o := b) (as := []) (envc := [(b + 1, f_reg), (b + 3, f_memory), (b + 9, f_links_0), (b + 10, f_links_1)]) (envc' := [(b + 1, u10.2.1), (b + 3, u10.2.2.1), (b + 9, u10.2.2.2.1), (b + 10, u10.2.2.2.2)]) (env' := [(b + 1, u10.2.1), (b + 3, u10.2.2.1), (b + 4, f_timers), (b + 4 + 1, f_timers_process), (b + 4 + 2, f_timers_time), (b + 4 + 3, f_timers_isBy), (b + 9, u10.2.2.2.1), (b + 10, u10.2.2.2.2)]) (rv := some u10.1) [0, 1, 6, 7] (hn _ _ _ _ _ _ _ _) rfl rfl (Nat.le_of_ble_eq_true rfl) hB.1 rfl rfl rfl k12 ?_
            show RB _ _ _ _ _ [.int u10.1] _ _
            exact r_ret rfl (nz_ok hO) (hPQ u10.1 u10.2.1 u10.2.2.1 f_timers f_timers_process f_timers_time f_timers_isBy u10.2.2.2.1 u10.2.2.2.2 hP)
          · rw [if_neg c56] at hP
            have hO := hO.2 c56
            by_cases c57 : x1 = 32
            · rw [if_pos c57] at hP
              have hO := hO.1 c57
              refine r_tswAt (k := 5) (b := 8) rfl (by rw [c57]; decide) ?_
              refine r_aload rfl ?_
              refine r_getr (q := b + 1) hB.1 hB.2.2.2.2.2.2.2.2.2.2.1 ?_
              refine r_int ?_
              refine r_ald (x := f_reg 0) 0 0 (hn _ _ _ _ _ _ _ _) rfl hB.2.1 (by decide) rfl (lt_in 0 20 rfl rfl) (lt_cl 0 rfl) rfl ?_
              refine r_if (fun c13 : (f_reg 0) = 0 => ?_) (fun c13 : ¬ ((f_reg 0) = 0) => ?_)
              · rw [if_pos c13] at hP
                have hO := hO.1 c13
                refine r_int ?_
                exact r_ret rfl rfl (hPQ 1 f_reg f_memory f_timers f_timers_process f_timers_time f_timers_isBy f_links_0 f_links_1 hP)
              · rw [if_neg c13] at hP
                have hO := hO.2 c13
                refine r_aload rfl ?_
                refine r_getr (q := b + 3) hB.1 hB.2.2.2.2.2.2.2.2.2.2.2.2.1 ?_
                refine r_iload rfl ?_
                refine r_int ?_
                refine r_isub ?_
                refine r_int ?_
                have h14 := hO
                refine r_ast (y := (-4)) (env' := [(b + 1, f_reg), (b + 3, (upd f_memory (((f_reg 4) - 3 : Int32).toNatClampNeg) (-4))), (b + 4, f_timers), (b + 4 + 1, f_timers_process), (b + 4 + 2, f_timers_time), (b + 4 + 3, f_timers_isBy), (b + 9, f_links_0), (b + 10, f_links_1)]) 1 (((f_reg 4) - 3 : Int32).toNatClampNeg) (hn _ _ _ _ _ _ _ _) rfl hB.2.2.2.1 (by decide) rfl h14 rfl rfl rfl ?_
                generalize hg_g15 : upd f_memory (((f_reg 4) - 3 : Int32).toNatClampNeg) (-4) = g15 at hP ⊢
                try dsimp only at hP
                refine r_fall ?_
                refine r_int ?_
                exact r_ret rfl rfl (hPQ 1 f_reg g15 f_timers f_timers_process f_timers_time f_timers_isBy f_links_0 f_links_1 hP)
            · rw [if_neg c57] at hP
              have hO := hO.2 c57
              by_cases c58 : x1 = 33
              · rw [if_pos c58] at hP
                have hO := hO.1 c58
                refine r_tswAt (k := 6) (b := 10) rfl (by rw [c58]; decide) ?_
                refine r_aload rfl ?_
                refine r_aload rfl ?_
                refine r_getr (q := b + 1) hB.1 hB.2.2.2.2.2.2.2.2.2.2.1 ?_
                refine r_int ?_
                refine r_ald (x := f_reg 1) 0 1 (hn _ _ _ _ _ _ _ _) rfl hB.2.1 (by decide) rfl (lt_in 1 20 rfl rfl) (lt_cl 1 rfl) rfl ?_
                refine r_if (fun c16 : (f_reg 1) = 0 => ?_) (fun c16 : ¬ ((f_reg 1) = 0) => ?_)
                · rw [if_pos c16] at hP
                  have hO := hO.1 c16
                  refine r_int ?_
                  refine r_fall ?_
                  have h18 := hO
                  have k19 := fun (Q' : Option Int32 → mMH → Prop) hq => tX3_fire (d := d + 2) (B := B) (v := mE v [(b + 1, f_reg), (b + 3, f_memory), (b + 4, f_timers), (b + 4 + 1, f_timers_process), (b + 4 + 2, f_timers_time), (b + 4 + 3, f_timers_isBy), (b + 9, f_links_0), (b + 10, f_links_1)]) (w := w) (Q := Q') hB (by omega) 0 f_reg f_memory h18 hq
                  generalize hg_u17 : FX3_fire 0 f_reg f_memory = u17 at k19 hP
                  try dsimp only at hP
                  refine r_callV (st := []) (o := b) (as := [.int 0]) (envc := [(b + 1, f_reg), (b + 3, f_memory)]) (envc' := [(b + 1, u17.2.1), (b + 3, u17.2.2)]) (env' := [(b + 1, u17.2.1), (b + 3, u17.2.2), (b + 4, f_timers), (b + 4 + 1, f_timers_process), (b + 4 + 2, f_timers_time), (b + 4 + 3, f_timers_isBy), (b + 9, f_links_0), (b + 10, f_links_1)]) (rv := none) [0, 1] (hn _ _ _ _ _ _ _ _) rfl rfl (Nat.le_of_ble_eq_true rfl) hB.1 rfl rfl rfl k19 ?_
                  show RB _ _ _ _ _ [] _ _
                  refine r_aload rfl ?_
                  refine r_getr (q := b + 1) hB.1 hB.2.2.2.2.2.2.2.2.2.2.1 ?_
                  refine r_int ?_
                  refine r_aload rfl ?_
                  refine r_getr (q := b + 1) hB.1 hB.2.2.2.2.2.2.2.2.2.2.1 ?_
                  refine r_int ?_
                  refine r_ald (x := u17.2.1 2) 0 2 (hn _ _ _ _ _ _ _ _) rfl hB.2.1 (by decide) rfl (lt_in 2 20 rfl rfl) (lt_cl 2 rfl) rfl ?_
                  refine r_ast (y := u17.2.1 2) (env' := [(b + 1, (upd u17.2.1 1 (u17.2.1 2))), (b + 3, u17.2.2), (b + 4, f_timers), (b + 4 + 1, f_timers_process), (b + 4 + 2, f_timers_time), (b + 4 + 3, f_timers_isBy), (b + 9, f_links_0), (b + 10, f_links_1)]) 0 1 (hn _ _ _ _ _ _ _ _) rfl hB.2.1 (by decide) rfl (lt_in 1 20 rfl rfl) (lt_cl 1 rfl) rfl rfl ?_
                  refine r_int ?_
                  exact r_ret rfl rfl (hPQ 1 (upd u17.2.1 1 (u17.2.1 2)) u17.2.2 f_timers f_timers_process f_timers_time f_timers_isBy f_links_0 f_links_1 hP)
                · rw [if_neg c16] at hP
                  have hO := hO.2 c16
                  refine r_int ?_
                  refine r_goto ?_
                  have h21 := hO
                  have k22 := fun (Q' : Option Int32 → mMH → Prop) hq => tX3_fire (d := d + 2) (B := B) (v := mE v [(b + 1, f_reg), (b + 3, f_memory), (b + 4, f_timers), (b + 4 + 1, f_timers_process), (b + 4 + 2, f_timers_time), (b + 4 + 3, f_timers_isBy), (b + 9, f_links_0), (b + 10, f_links_1)]) (w := w) (Q := Q') hB (by omega) 1 f_reg f_memory h21 hq
                  generalize hg_u20 : FX3_fire 1 f_reg f_memory = u20 at k22 hP
                  try dsimp only at hP
                  refine r_callV (st := []) (o := b) (as := [.int 1]) (envc := [(b + 1, f_reg), (b + 3, f_memory)]) (envc' := [(b + 1, u20.2.1), (b + 3, u20.2.2)]) (env' := [(b + 1, u20.2.1), (b + 3, u20.2.2), (b + 4, f_timers), (b + 4 + 1, f_timers_process), (b + 4 + 2, f_timers_time), (b + 4 + 3, f_timers_isBy), (b + 9, f_links_0), (b + 10, f_links_1)]) (rv := none) [0, 1] (hn _ _ _ _ _ _ _ _) rfl rfl (Nat.le_of_ble_eq_true rfl) hB.1 rfl rfl rfl k22 ?_
                  show RB _ _ _ _ _ [] _ _
                  refine r_aload rfl ?_
                  refine r_getr (q := b + 1) hB.1 hB.2.2.2.2.2.2.2.2.2.2.1 ?_
                  refine r_int ?_
                  refine r_aload rfl ?_
                  refine r_getr (q := b + 1) hB.1 hB.2.2.2.2.2.2.2.2.2.2.1 ?_
                  refine r_int ?_
                  refine r_ald (x := u20.2.1 2) 0 2 (hn _ _ _ _ _ _ _ _) rfl hB.2.1 (by decide) rfl (lt_in 2 20 rfl rfl) (lt_cl 2 rfl) rfl ?_
                  refine r_ast (y := u20.2.1 2) (env' := [(b + 1, (upd u20.2.1 1 (u20.2.1 2))), (b + 3, u20.2.2), (b + 4, f_timers), (b + 4 + 1, f_timers_process), (b + 4 + 2, f_timers_time), (b + 4 + 3, f_timers_isBy), (b + 9, f_links_0), (b + 10, f_links_1)]) 0 1 (hn _ _ _ _ _ _ _ _) rfl hB.2.1 (by decide) rfl (lt_in 1 20 rfl rfl) (lt_cl 1 rfl) rfl rfl ?_
                  refine r_int ?_
                  exact r_ret rfl rfl (hPQ 1 (upd u20.2.1 1 (u20.2.1 2)) u20.2.2 f_timers f_timers_process f_timers_time f_timers_isBy f_links_0 f_links_1 hP)
              · rw [if_neg c58] at hP
                have hO := hO.2 c58
                by_cases c59 : x1 = 34
                · rw [if_pos c59] at hP
                  have hO := hO.1 c59
                  refine r_tswAt (k := 7) (b := 2) rfl (by rw [c59]; decide) ?_
                  refine r_aload rfl ?_
                  refine r_getr (q := b + 3) hB.1 hB.2.2.2.2.2.2.2.2.2.2.2.2.1 ?_
                  refine r_iload rfl ?_
                  refine r_int ?_
                  refine r_isub ?_
                  refine r_int ?_
                  obtain ⟨h23, hO⟩ := hO
                  refine r_ast (y := (-2)) (env' := [(b + 1, f_reg), (b + 3, (upd f_memory (((f_reg 4) - 3 : Int32).toNatClampNeg) (-2))), (b + 4, f_timers), (b + 4 + 1, f_timers_process), (b + 4 + 2, f_timers_time), (b + 4 + 3, f_timers_isBy), (b + 9, f_links_0), (b + 10, f_links_1)]) 1 (((f_reg 4) - 3 : Int32).toNatClampNeg) (hn _ _ _ _ _ _ _ _) rfl hB.2.2.2.1 (by decide) rfl h23 rfl rfl rfl ?_
                  generalize hg_g24 : upd f_memory (((f_reg 4) - 3 : Int32).toNatClampNeg) (-2) = g24 at hP hO ⊢
                  try dsimp only at hP hO
                  refine r_aload rfl ?_
                  refine r_getr (q := b + 3) hB.1 hB.2.2.2.2.2.2.2.2.2.2.2.2.1 ?_
                  refine r_iload rfl ?_
                  refine r_int ?_
                  refine r_isub ?_
                  refine r_int ?_
                  have h25 := hO
                  refine r_ast (y := (-5)) (env' := [(b + 1, f_reg), (b + 3, (upd g24 (((f_reg 4) - 4 : Int32).toNatClampNeg) (-5))), (b + 4, f_timers), (b + 4 + 1, f_timers_process), (b + 4 + 2, f_timers_time), (b + 4 + 3, f_timers_isBy), (b + 9, f_links_0), (b + 10, f_links_1)]) 1 (((f_reg 4) - 4 : Int32).toNatClampNeg) (hn _ _ _ _ _ _ _ _) rfl hB.2.2.2.1 (by decide) rfl h25 rfl rfl rfl ?_
                  generalize hg_g26 : upd g24 (((f_reg 4) - 4 : Int32).toNatClampNeg) (-5) = g26 at hP ⊢
                  try dsimp only at hP
                  refine r_int ?_
                  exact r_ret rfl rfl (hPQ 1 f_reg g26 f_timers f_timers_process f_timers_time f_timers_isBy f_links_0 f_links_1 hP)
                · rw [if_neg c59] at hP
                  have hO := hO.2 c59
                  by_cases c60 : x1 = 35
                  · rw [if_pos c60] at hP
                    have hO := hO.1 c60
                    refine r_tswAt (k := 8) (b := 4) rfl (by rw [c60]; decide) ?_
                    refine r_aload rfl ?_
                    obtain ⟨h28, hO⟩ := hO
                    have k29 := fun (Q' : Option Int32 → mMH → Prop) hq => tX3_waitForGuardOrTime (d := d + 0) (B := B) (v := mE v [(b + 1, f_reg), (b + 3, f_memory), (b + 4, f_timers), (b + 4 + 1, f_timers_process), (b + 4 + 2, f_timers_time), (b + 4 + 3, f_timers_isBy), (b + 9, f_links_0), (b + 10, f_links_1)]) (w := w) (Q := Q') hB (by omega) f_reg f_memory f_timers f_timers_process f_timers_time f_timers_isBy h28 hq
                    generalize hg_u27 : FX3_waitForGuardOrTime f_reg f_memory f_timers f_timers_process f_timers_time f_timers_isBy = u27 at k29 hP hO
                    try dsimp only at hP hO
                    refine r_callV (st := []) (o := b) (as := []) (envc := [(b + 1, f_reg), (b + 3, f_memory), (b + 4, f_timers), (b + 4 + 1, f_timers_process), (b + 4 + 2, f_timers_time), (b + 4 + 3, f_timers_isBy)]) (envc' := [(b + 1, u27.2.1), (b + 3, u27.2.2.1), (b + 4, u27.2.2.2.1), (b + 4 + 1, u27.2.2.2.2.1), (b + 4 + 2, u27.2.2.2.2.2.1), (b + 4 + 3, u27.2.2.2.2.2.2)]) (env' := [(b + 1, u27.2.1), (b + 3, u27.2.2.1), (b + 4, u27.2.2.2.1), (b + 4 + 1, u27.2.2.2.2.1), (b + 4 + 2, u27.2.2.2.2.2.1), (b + 4 + 3, u27.2.2.2.2.2.2), (b + 9, f_links_0), (b + 10, f_links_1)]) (rv := some u27.1) [0, 1, 2, 3, 4, 5] (hn _ _ _ _ _ _ _ _) rfl rfl (Nat.le_of_ble_eq_true rfl) hB.1 rfl rfl rfl k29 ?_
                    show RB _ _ _ _ _ [.int u27.1] _ _
                    exact r_ret rfl (nz_ok hO) (hPQ u27.1 u27.2.1 u27.2.2.1 u27.2.2.2.1 u27.2.2.2.2.1 u27.2.2.2.2.2.1 u27.2.2.2.2.2.2 f_links_0 f_links_1 hP)
                  · rw [if_neg c60] at hP
                    have hO := hO.2 c60
                    by_cases c61 : x1 = 36
                    · rw [if_pos c61] at hP
                      have hO := hO.1 c61
                      refine r_tswAt (k := 9) (b := 13) rfl (by rw [c61]; decide) ?_
                      refine r_aload rfl ?_
                      have h31 := hO
                      have k32 := fun (Q' : Option Int32 → mMH → Prop) hq => tX3_enableTime (d := d + 1) (B := B) (v := mE v [(b + 1, f_reg), (b + 3, f_memory), (b + 4, f_timers), (b + 4 + 1, f_timers_process), (b + 4 + 2, f_timers_time), (b + 4 + 3, f_timers_isBy), (b + 9, f_links_0), (b + 10, f_links_1)]) (w := w) (Q := Q') hB (by omega) f_reg f_memory h31 hq
                      generalize hg_u30 : FX3_enableTime f_reg f_memory = u30 at k32 hP
                      try dsimp only at hP
                      refine r_callV (st := []) (o := b) (as := []) (envc := [(b + 1, f_reg), (b + 3, f_memory)]) (envc' := [(b + 1, u30.2.1), (b + 3, u30.2.2)]) (env' := [(b + 1, u30.2.1), (b + 3, u30.2.2), (b + 4, f_timers), (b + 4 + 1, f_timers_process), (b + 4 + 2, f_timers_time), (b + 4 + 3, f_timers_isBy), (b + 9, f_links_0), (b + 10, f_links_1)]) (rv := none) [0, 1] (hn _ _ _ _ _ _ _ _) rfl rfl (Nat.le_of_ble_eq_true rfl) hB.1 rfl rfl rfl k32 ?_
                      show RB _ _ _ _ _ [] _ _
                      refine r_int ?_
                      exact r_ret rfl rfl (hPQ 1 u30.2.1 u30.2.2 f_timers f_timers_process f_timers_time f_timers_isBy f_links_0 f_links_1 hP)
                    · rw [if_neg c61] at hP
                      have hO := hO.2 c61
                      by_cases c62 : x1 = 37
                      · rw [if_pos c62] at hP
                        have hO := hO.1 c62
                        refine r_tswAt (k := 10) (b := 14) rfl (by rw [c62]; decide) ?_
                        refine r_aload rfl ?_
                        refine r_aload rfl ?_
                        refine r_getr (q := b + 1) hB.1 hB.2.2.2.2.2.2.2.2.2.2.1 ?_
                        refine r_int ?_
                        refine r_ald (x := f_reg 1) 0 1 (hn _ _ _ _ _ _ _ _) rfl hB.2.1 (by decide) rfl (lt_in 1 20 rfl rfl) (lt_cl 1 rfl) rfl ?_
                        refine r_if (fun c33 : (f_reg 1) = 0 => ?_) (fun c33 : ¬ ((f_reg 1) = 0) => ?_)
                        · rw [if_pos c33] at hP
                          have hO := hO.1 c33
                          refine r_int ?_
                          refine r_fall ?_
                          have h35 := hO
                          have k36 := fun (Q' : Option Int32 → mMH → Prop) hq => tX3_fire (d := d + 2) (B := B) (v := mE v [(b + 1, f_reg), (b + 3, f_memory), (b + 4, f_timers), (b + 4 + 1, f_timers_process), (b + 4 + 2, f_timers_time), (b + 4 + 3, f_timers_isBy), (b + 9, f_links_0), (b + 10, f_links_1)]) (w := w) (Q := Q') hB (by omega) 0 f_reg f_memory h35 hq
                          generalize hg_u34 : FX3_fire 0 f_reg f_memory = u34 at k36 hP
                          try dsimp only at hP
                          refine r_callV (st := []) (o := b) (as := [.int 0]) (envc := [(b + 1, f_reg), (b + 3, f_memory)]) (envc' := [(b + 1, u34.2.1), (b + 3, u34.2.2)]) (env' := [(b + 1, u34.2.1), (b + 3, u34.2.2), (b + 4, f_timers), (b + 4 + 1, f_timers_process), (b + 4 + 2, f_timers_time), (b + 4 + 3, f_timers_isBy), (b + 9, f_links_0), (b + 10, f_links_1)]) (rv := none) [0, 1] (hn _ _ _ _ _ _ _ _) rfl rfl (Nat.le_of_ble_eq_true rfl) hB.1 rfl rfl rfl k36 ?_
                          show RB _ _ _ _ _ [] _ _
                          refine r_aload rfl ?_
                          refine r_getr (q := b + 1) hB.1 hB.2.2.2.2.2.2.2.2.2.2.1 ?_
                          refine r_int ?_
                          refine r_int ?_
                          refine r_ast (y := 0) (env' := [(b + 1, (upd u34.2.1 1 0)), (b + 3, u34.2.2), (b + 4, f_timers), (b + 4 + 1, f_timers_process), (b + 4 + 2, f_timers_time), (b + 4 + 3, f_timers_isBy), (b + 9, f_links_0), (b + 10, f_links_1)]) 0 1 (hn _ _ _ _ _ _ _ _) rfl hB.2.1 (by decide) rfl (lt_in 1 20 rfl rfl) (lt_cl 1 rfl) rfl rfl ?_
                          refine r_aload rfl ?_
                          refine r_getr (q := b + 1) hB.1 hB.2.2.2.2.2.2.2.2.2.2.1 ?_
                          refine r_int ?_
                          refine r_int ?_
                          refine r_ast (y := 0) (env' := [(b + 1, (upd (upd u34.2.1 1 0) 2 0)), (b + 3, u34.2.2), (b + 4, f_timers), (b + 4 + 1, f_timers_process), (b + 4 + 2, f_timers_time), (b + 4 + 3, f_timers_isBy), (b + 9, f_links_0), (b + 10, f_links_1)]) 0 2 (hn _ _ _ _ _ _ _ _) rfl hB.2.1 (by decide) rfl (lt_in 2 20 rfl rfl) (lt_cl 2 rfl) rfl rfl ?_
                          refine r_int ?_
                          exact r_ret rfl rfl (hPQ 1 (upd (upd u34.2.1 1 0) 2 0) u34.2.2 f_timers f_timers_process f_timers_time f_timers_isBy f_links_0 f_links_1 hP)
                        · rw [if_neg c33] at hP
                          have hO := hO.2 c33
                          refine r_aload rfl ?_
                          refine r_getr (q := b + 3) hB.1 hB.2.2.2.2.2.2.2.2.2.2.2.2.1 ?_
                          refine r_iload rfl ?_
                          refine r_int ?_
                          refine r_isub ?_
                          obtain ⟨h37, hO⟩ := hO
                          refine r_ald (x := f_memory (((f_reg 4) - 4 : Int32).toNatClampNeg)) 1 (((f_reg 4) - 4 : Int32).toNatClampNeg) (hn _ _ _ _ _ _ _ _) rfl hB.2.2.2.1 (by decide) rfl h37 rfl rfl ?_
                          refine r_int ?_
                          refine r_icmp1 (fun c38 : (f_memory (((f_reg 4) - 4 : Int32).toNatClampNeg)) = (-6) => ?_) (fun c38 : ¬ ((f_memory (((f_reg 4) - 4 : Int32).toNatClampNeg)) = (-6)) => ?_)
                          · rw [if_pos c38] at hP
                            have hO := hO.1 c38
                            refine r_aload rfl ?_
                            refine r_getr (q := b + 3) hB.1 hB.2.2.2.2.2.2.2.2.2.2.2.2.1 ?_
                            refine r_iload rfl ?_
                            refine r_int ?_
                            refine r_isub ?_
                            obtain ⟨h39, hO⟩ := hO
                            refine r_ald (x := f_memory (((f_reg 4) - 5 : Int32).toNatClampNeg)) 1 (((f_reg 4) - 5 : Int32).toNatClampNeg) (hn _ _ _ _ _ _ _ _) rfl hB.2.2.2.1 (by decide) rfl h39 rfl rfl ?_
                            refine r_aload rfl ?_
                            refine r_getr (q := b + 1) hB.1 hB.2.2.2.2.2.2.2.2.2.2.1 ?_
                            refine r_int ?_
                            refine r_ald (x := f_reg 2) 0 2 (hn _ _ _ _ _ _ _ _) rfl hB.2.1 (by decide) rfl (lt_in 2 20 rfl rfl) (lt_cl 2 rfl) rfl ?_
                            have k48 := fun (Q' : Option Int32 → mMH → Prop) hq => tX9_isAfter (d := d + 2) (B := B) (v := mE v [(b + 1, f_reg), (b + 3, f_memory), (b + 4, f_timers), (b + 4 + 1, f_timers_process), (b + 4 + 2, f_timers_time), (b + 4 + 3, f_timers_isBy), (b + 9, f_links_0), (b + 10, f_links_1)]) (w := w) (Q := Q') (f_memory (((f_reg 4) - 5 : Int32).toNatClampNeg)) (f_reg 2) hq
                            generalize hg_u40 : FX9_isAfter (f_memory (((f_reg 4) - 5 : Int32).toNatClampNeg)) (f_reg 2) = u40 at k48 hP hO
                            try dsimp only at hP hO
                            refine r_callS (st := [.ref b]) (as := [.int (f_memory (((f_reg 4) - 5 : Int32).toNatClampNeg)), .int (f_reg 2)]) (envc := []) (envc' := []) (env' := [(b + 1, f_reg), (b + 3, f_memory), (b + 4, f_timers), (b + 4 + 1, f_timers_process), (b + 4 + 2, f_timers_time), (b + 4 + 3, f_timers_isBy), (b + 9, f_links_0), (b + 10, f_links_1)]) (rv := some u40) [] (Or.inr rfl) (hn _ _ _ _ _ _ _ _) rfl rfl (Nat.le_of_ble_eq_true rfl) rfl rfl rfl k48 ?_
                            show RB _ _ _ _ _ [.int u40, .ref b] _ _
                            refine r_if (fun c41 : u40 = 0 => ?_) (fun c41 : ¬ (u40 = 0) => ?_)
                            · rw [if_pos c41] at hP
                              have hO := hO.1 c41
                              refine r_int ?_
                              refine r_fall ?_
                              have h43 := hO
                              have k44 := fun (Q' : Option Int32 → mMH → Prop) hq => tX3_fire (d := d + 2) (B := B) (v := mE v [(b + 1, f_reg), (b + 3, f_memory), (b + 4, f_timers), (b + 4 + 1, f_timers_process), (b + 4 + 2, f_timers_time), (b + 4 + 3, f_timers_isBy), (b + 9, f_links_0), (b + 10, f_links_1)]) (w := w) (Q := Q') hB (by omega) 0 f_reg f_memory h43 hq
                              generalize hg_u42 : FX3_fire 0 f_reg f_memory = u42 at k44 hP
                              try dsimp only at hP
                              refine r_callV (st := []) (o := b) (as := [.int 0]) (envc := [(b + 1, f_reg), (b + 3, f_memory)]) (envc' := [(b + 1, u42.2.1), (b + 3, u42.2.2)]) (env' := [(b + 1, u42.2.1), (b + 3, u42.2.2), (b + 4, f_timers), (b + 4 + 1, f_timers_process), (b + 4 + 2, f_timers_time), (b + 4 + 3, f_timers_isBy), (b + 9, f_links_0), (b + 10, f_links_1)]) (rv := none) [0, 1] (hn _ _ _ _ _ _ _ _) rfl rfl (Nat.le_of_ble_eq_true rfl) hB.1 rfl rfl rfl k44 ?_
                              show RB _ _ _ _ _ [] _ _
                              refine r_aload rfl ?_
                              refine r_getr (q := b + 1) hB.1 hB.2.2.2.2.2.2.2.2.2.2.1 ?_
                              refine r_int ?_
                              refine r_int ?_
                              refine r_ast (y := 0) (env' := [(b + 1, (upd u42.2.1 1 0)), (b + 3, u42.2.2), (b + 4, f_timers), (b + 4 + 1, f_timers_process), (b + 4 + 2, f_timers_time), (b + 4 + 3, f_timers_isBy), (b + 9, f_links_0), (b + 10, f_links_1)]) 0 1 (hn _ _ _ _ _ _ _ _) rfl hB.2.1 (by decide) rfl (lt_in 1 20 rfl rfl) (lt_cl 1 rfl) rfl rfl ?_
                              refine r_aload rfl ?_
                              refine r_getr (q := b + 1) hB.1 hB.2.2.2.2.2.2.2.2.2.2.1 ?_
                              refine r_int ?_
                              refine r_int ?_
                              refine r_ast (y := 0) (env' := [(b + 1, (upd (upd u42.2.1 1 0) 2 0)), (b + 3, u42.2.2), (b + 4, f_timers), (b + 4 + 1, f_timers_process), (b + 4 + 2, f_timers_time), (b + 4 + 3, f_timers_isBy), (b + 9, f_links_0), (b + 10, f_links_1)]) 0 2 (hn _ _ _ _ _ _ _ _) rfl hB.2.1 (by decide) rfl (lt_in 2 20 rfl rfl) (lt_cl 2 rfl) rfl rfl ?_
                              refine r_int ?_
                              exact r_ret rfl rfl (hPQ 1 (upd (upd u42.2.1 1 0) 2 0) u42.2.2 f_timers f_timers_process f_timers_time f_timers_isBy f_links_0 f_links_1 hP)
                            · rw [if_neg c41] at hP
                              have hO := hO.2 c41
                              refine r_int ?_
                              refine r_goto ?_
                              have h46 := hO
                              have k47 := fun (Q' : Option Int32 → mMH → Prop) hq => tX3_fire (d := d + 2) (B := B) (v := mE v [(b + 1, f_reg), (b + 3, f_memory), (b + 4, f_timers), (b + 4 + 1, f_timers_process), (b + 4 + 2, f_timers_time), (b + 4 + 3, f_timers_isBy), (b + 9, f_links_0), (b + 10, f_links_1)]) (w := w) (Q := Q') hB (by omega) 1 f_reg f_memory h46 hq
                              generalize hg_u45 : FX3_fire 1 f_reg f_memory = u45 at k47 hP
                              try dsimp only at hP
                              refine r_callV (st := []) (o := b) (as := [.int 1]) (envc := [(b + 1, f_reg), (b + 3, f_memory)]) (envc' := [(b + 1, u45.2.1), (b + 3, u45.2.2)]) (env' := [(b + 1, u45.2.1), (b + 3, u45.2.2), (b + 4, f_timers), (b + 4 + 1, f_timers_process), (b + 4 + 2, f_timers_time), (b + 4 + 3, f_timers_isBy), (b + 9, f_links_0), (b + 10, f_links_1)]) (rv := none) [0, 1] (hn _ _ _ _ _ _ _ _) rfl rfl (Nat.le_of_ble_eq_true rfl) hB.1 rfl rfl rfl k47 ?_
                              show RB _ _ _ _ _ [] _ _
                              refine r_aload rfl ?_
                              refine r_getr (q := b + 1) hB.1 hB.2.2.2.2.2.2.2.2.2.2.1 ?_
                              refine r_int ?_
                              refine r_int ?_
                              refine r_ast (y := 0) (env' := [(b + 1, (upd u45.2.1 1 0)), (b + 3, u45.2.2), (b + 4, f_timers), (b + 4 + 1, f_timers_process), (b + 4 + 2, f_timers_time), (b + 4 + 3, f_timers_isBy), (b + 9, f_links_0), (b + 10, f_links_1)]) 0 1 (hn _ _ _ _ _ _ _ _) rfl hB.2.1 (by decide) rfl (lt_in 1 20 rfl rfl) (lt_cl 1 rfl) rfl rfl ?_
                              refine r_aload rfl ?_
                              refine r_getr (q := b + 1) hB.1 hB.2.2.2.2.2.2.2.2.2.2.1 ?_
                              refine r_int ?_
                              refine r_int ?_
                              refine r_ast (y := 0) (env' := [(b + 1, (upd (upd u45.2.1 1 0) 2 0)), (b + 3, u45.2.2), (b + 4, f_timers), (b + 4 + 1, f_timers_process), (b + 4 + 2, f_timers_time), (b + 4 + 3, f_timers_isBy), (b + 9, f_links_0), (b + 10, f_links_1)]) 0 2 (hn _ _ _ _ _ _ _ _) rfl hB.2.1 (by decide) rfl (lt_in 2 20 rfl rfl) (lt_cl 2 rfl) rfl rfl ?_
                              refine r_int ?_
                              exact r_ret rfl rfl (hPQ 1 (upd (upd u45.2.1 1 0) 2 0) u45.2.2 f_timers f_timers_process f_timers_time f_timers_isBy f_links_0 f_links_1 hP)
                          · rw [if_neg c38] at hP
                            have hO := hO.2 c38
                            refine r_int ?_
                            refine r_fall ?_
                            have h50 := hO
                            have k51 := fun (Q' : Option Int32 → mMH → Prop) hq => tX3_fire (d := d + 2) (B := B) (v := mE v [(b + 1, f_reg), (b + 3, f_memory), (b + 4, f_timers), (b + 4 + 1, f_timers_process), (b + 4 + 2, f_timers_time), (b + 4 + 3, f_timers_isBy), (b + 9, f_links_0), (b + 10, f_links_1)]) (w := w) (Q := Q') hB (by omega) 0 f_reg f_memory h50 hq
                            generalize hg_u49 : FX3_fire 0 f_reg f_memory = u49 at k51 hP
                            try dsimp only at hP
                            refine r_callV (st := []) (o := b) (as := [.int 0]) (envc := [(b + 1, f_reg), (b + 3, f_memory)]) (envc' := [(b + 1, u49.2.1), (b + 3, u49.2.2)]) (env' := [(b + 1, u49.2.1), (b + 3, u49.2.2), (b + 4, f_timers), (b + 4 + 1, f_timers_process), (b + 4 + 2, f_timers_time), (b + 4 + 3, f_timers_isBy), (b + 9, f_links_0), (b + 10, f_links_1)]) (rv := none) [0, 1] (hn _ _ _ _ _ _ _ _) rfl rfl (Nat.le_of_ble_eq_true rfl) hB.1 rfl rfl rfl k51 ?_
                            show RB _ _ _ _ _ [] _ _
                            refine r_aload rfl ?_
                            refine r_getr (q := b + 1) hB.1 hB.2.2.2.2.2.2.2.2.2.2.1 ?_
                            refine r_int ?_
                            refine r_int ?_
                            refine r_ast (y := 0) (env' := [(b + 1, (upd u49.2.1 1 0)), (b + 3, u49.2.2), (b + 4, f_timers), (b + 4 + 1, f_timers_process), (b + 4 + 2, f_timers_time), (b + 4 + 3, f_timers_isBy), (b + 9, f_links_0), (b + 10, f_links_1)]) 0 1 (hn _ _ _ _ _ _ _ _) rfl hB.2.1 (by decide) rfl (lt_in 1 20 rfl rfl) (lt_cl 1 rfl) rfl rfl ?_
                            refine r_aload rfl ?_
                            refine r_getr (q := b + 1) hB.1 hB.2.2.2.2.2.2.2.2.2.2.1 ?_
                            refine r_int ?_
                            refine r_int ?_
                            refine r_ast (y := 0) (env' := [(b + 1, (upd (upd u49.2.1 1 0) 2 0)), (b + 3, u49.2.2), (b + 4, f_timers), (b + 4 + 1, f_timers_process), (b + 4 + 2, f_timers_time), (b + 4 + 3, f_timers_isBy), (b + 9, f_links_0), (b + 10, f_links_1)]) 0 2 (hn _ _ _ _ _ _ _ _) rfl hB.2.1 (by decide) rfl (lt_in 2 20 rfl rfl) (lt_cl 2 rfl) rfl rfl ?_
                            refine r_int ?_
                            exact r_ret rfl rfl (hPQ 1 (upd (upd u49.2.1 1 0) 2 0) u49.2.2 f_timers f_timers_process f_timers_time f_timers_isBy f_links_0 f_links_1 hP)
                      · rw [if_neg c62] at hP
                        have hO := hO.2 c62
                        refine r_tswD (fun k hk => ?_) ?_
                        · have hk : k < 11 := hk
                          rcases (show k = 0 ∨ k = 1 ∨ k = 2 ∨ k = 3 ∨ k = 4 ∨ k = 5 ∨ k = 6 ∨ k = 7 ∨ k = 8 ∨ k = 9 ∨ k = 10 by omega) with rfl | rfl | rfl | rfl | rfl | rfl | rfl | rfl | rfl | rfl | rfl
                          · rw [show (27 : Int32) + nI 0 = 27 by decide +kernel]; exact c52
                          · rw [show (27 : Int32) + nI 1 = 28 by decide +kernel]; exact c53
                          · rw [show (27 : Int32) + nI 2 = 29 by decide +kernel]; exact c54
                          · rw [show (27 : Int32) + nI 3 = 30 by decide +kernel]; exact c55
                          · rw [show (27 : Int32) + nI 4 = 31 by decide +kernel]; exact c56
                          · rw [show (27 : Int32) + nI 5 = 32 by decide +kernel]; exact c57
                          · rw [show (27 : Int32) + nI 6 = 33 by decide +kernel]; exact c58
                          · rw [show (27 : Int32) + nI 7 = 34 by decide +kernel]; exact c59
                          · rw [show (27 : Int32) + nI 8 = 35 by decide +kernel]; exact c60
                          · rw [show (27 : Int32) + nI 9 = 36 by decide +kernel]; exact c61
                          · rw [show (27 : Int32) + nI 10 = 37 by decide +kernel]; exact c62
                        refine r_int ?_
                        exact r_ret rfl rfl (hPQ 0 f_reg f_memory f_timers f_timers_process f_timers_time f_timers_isBy f_links_0 f_links_1 hP)

def FX3_perform (x2 : Int32) (f_this : mF) (f_reg : mF) (f_memory : mF) (f_timers : mF) (f_timers_process : mF) (f_timers_time : mF) (f_timers_isBy : mF) (f_links_0 : mF) (f_links_1 : mF) (f_dia : mF) (f_dia_meetings : mF) (f_prg : mF) (f_prg_op : mF) (f_prg_number : mF) : Int32 × mF × mF × mF × mF × mF × mF × mF × mF × mF × mF × mF :=
  if (f_reg 3) < 0 then ((0, f_this, f_reg, f_memory, f_timers, f_timers_process, f_timers_time, f_timers_isBy, f_links_0, f_links_1, f_dia, f_dia_meetings)) else (if (f_reg 3) < (f_prg 1) then (if 10 ≤ (f_prg_op ((f_reg 3 : Int32).toNatClampNeg)) then (if 18 ≤ (f_prg_op ((f_reg 3 : Int32).toNatClampNeg)) then (if (f_prg_op ((f_reg 3 : Int32).toNatClampNeg)) = 25 then (if (f_prg_op ((f_reg 3 : Int32).toNatClampNeg)) = 26 then (let u8 := FX3_communicate 1 (upd f_this 7 (f_reg 5)) (upd (upd f_reg 3 ((f_reg 3) + 1)) 6 ((f_reg 6) + 1)) f_memory f_timers f_timers_process f_timers_time f_timers_isBy f_links_0 f_links_1 f_dia f_dia_meetings; (u8.1, (upd f_this 7 (f_reg 5)), u8.2.1, u8.2.2.1, u8.2.2.2.1, u8.2.2.2.2.1, u8.2.2.2.2.2.1, u8.2.2.2.2.2.2.1, u8.2.2.2.2.2.2.2.1, u8.2.2.2.2.2.2.2.2.1, u8.2.2.2.2.2.2.2.2.2.1, u8.2.2.2.2.2.2.2.2.2.2)) else (let u11 := FX3_communicate 0 (upd f_this 7 (f_reg 5)) (upd (upd f_reg 3 ((f_reg 3) + 1)) 6 ((f_reg 6) + 1)) f_memory f_timers f_timers_process f_timers_time f_timers_isBy f_links_0 f_links_1 f_dia f_dia_meetings; (u11.1, (upd f_this 7 (f_reg 5)), u11.2.1, u11.2.2.1, u11.2.2.2.1, u11.2.2.2.2.1, u11.2.2.2.2.2.1, u11.2.2.2.2.2.2.1, u11.2.2.2.2.2.2.2.1, u11.2.2.2.2.2.2.2.2.1, u11.2.2.2.2.2.2.2.2.2.1, u11.2.2.2.2.2.2.2.2.2.2))) else (if (f_prg_op ((f_reg 3 : Int32).toNatClampNeg)) = 26 then (if (f_prg_op ((f_reg 3 : Int32).toNatClampNeg)) = 26 then (let u16 := FX3_communicate 1 (upd f_this 7 (f_reg 5)) (upd (upd f_reg 3 ((f_reg 3) + 1)) 6 ((f_reg 6) + 1)) f_memory f_timers f_timers_process f_timers_time f_timers_isBy f_links_0 f_links_1 f_dia f_dia_meetings; (u16.1, (upd f_this 7 (f_reg 5)), u16.2.1, u16.2.2.1, u16.2.2.2.1, u16.2.2.2.2.1, u16.2.2.2.2.2.1, u16.2.2.2.2.2.2.1, u16.2.2.2.2.2.2.2.1, u16.2.2.2.2.2.2.2.2.1, u16.2.2.2.2.2.2.2.2.2.1, u16.2.2.2.2.2.2.2.2.2.2)) else (let u19 := FX3_communicate 0 (upd f_this 7 (f_reg 5)) (upd (upd f_reg 3 ((f_reg 3) + 1)) 6 ((f_reg 6) + 1)) f_memory f_timers f_timers_process f_timers_time f_timers_isBy f_links_0 f_links_1 f_dia f_dia_meetings; (u19.1, (upd f_this 7 (f_reg 5)), u19.2.1, u19.2.2.1, u19.2.2.2.1, u19.2.2.2.2.1, u19.2.2.2.2.2.1, u19.2.2.2.2.2.2.1, u19.2.2.2.2.2.2.2.1, u19.2.2.2.2.2.2.2.2.1, u19.2.2.2.2.2.2.2.2.2.1, u19.2.2.2.2.2.2.2.2.2.2))) else (if 25 ≤ (f_prg_op ((f_reg 3 : Int32).toNatClampNeg)) then (let u23 := FX3_performOnGuards (f_prg_op ((f_reg 3 : Int32).toNatClampNeg)) (upd (upd f_reg 3 ((f_reg 3) + 1)) 6 ((f_reg 6) + 1)) f_memory f_timers f_timers_process f_timers_time f_timers_isBy f_links_0 f_links_1; (u23.1, (upd f_this 7 (f_reg 5)), u23.2.1, u23.2.2.1, u23.2.2.2.1, u23.2.2.2.2.1, u23.2.2.2.2.2.1, u23.2.2.2.2.2.2.1, u23.2.2.2.2.2.2.2.1, u23.2.2.2.2.2.2.2.2, f_dia, f_dia_meetings)) else (let u26 := FX3_performOnProcesses (f_prg_op ((f_reg 3 : Int32).toNatClampNeg)) (upd (upd f_reg 3 ((f_reg 3) + 1)) 6 ((f_reg 6) + 1)) f_memory f_timers f_timers_process f_timers_time f_timers_isBy; (u26.1, (upd f_this 7 (f_reg 5)), u26.2.1, u26.2.2.1, u26.2.2.2.1, u26.2.2.2.2.1, u26.2.2.2.2.2.1, u26.2.2.2.2.2.2, f_links_0, f_links_1, f_dia, f_dia_meetings))))) else (let u29 := FX3_performOnWords (f_prg_op ((f_reg 3 : Int32).toNatClampNeg)) (upd (upd f_reg 3 ((f_reg 3) + 1)) 6 ((f_reg 6) + 1)) f_memory; (u29.1, (upd f_this 7 (f_reg 5)), u29.2.1, u29.2.2, f_timers, f_timers_process, f_timers_time, f_timers_isBy, f_links_0, f_links_1, f_dia, f_dia_meetings))) else (let u33 := FX3_performTold (f_prg_op ((f_reg 3 : Int32).toNatClampNeg)) (f_prg_number ((f_reg 3 : Int32).toNatClampNeg)) x2 (upd (upd f_reg 3 ((f_reg 3) + 1)) 6 ((f_reg 6) + 1)) f_memory; (u33.1, (upd f_this 7 (f_reg 5)), u33.2.1, u33.2.2, f_timers, f_timers_process, f_timers_time, f_timers_isBy, f_links_0, f_links_1, f_dia, f_dia_meetings))) else ((0, f_this, f_reg, f_memory, f_timers, f_timers_process, f_timers_time, f_timers_isBy, f_links_0, f_links_1, f_dia, f_dia_meetings)))
def OX3_perform (x2 : Int32) (f_this : mF) (f_reg : mF) (f_memory : mF) (f_timers : mF) (f_timers_process : mF) (f_timers_time : mF) (f_timers_isBy : mF) (f_links_0 : mF) (f_links_1 : mF) (f_dia : mF) (f_dia_meetings : mF) (f_prg : mF) (f_prg_op : mF) (f_prg_number : mF) : Prop :=
  ((f_reg 3) < 0 → True) ∧ (¬ ((f_reg 3) < 0) → (((f_reg 3) < (f_prg 1) → (vp_in (f_reg 3) 100 ∧ ((10 ≤ (f_prg_op ((f_reg 3 : Int32).toNatClampNeg)) → ((18 ≤ (f_prg_op ((f_reg 3 : Int32).toNatClampNeg)) → (((f_prg_op ((f_reg 3 : Int32).toNatClampNeg)) = 25 → (((f_prg_op ((f_reg 3 : Int32).toNatClampNeg)) = 26 → (OX3_communicate 1 (upd f_this 7 (f_reg 5)) (upd (upd f_reg 3 ((f_reg 3) + 1)) 6 ((f_reg 6) + 1)) f_memory f_timers f_timers_process f_timers_time f_timers_isBy f_links_0 f_links_1 f_dia f_dia_meetings ∧ (let u8 := FX3_communicate 1 (upd f_this 7 (f_reg 5)) (upd (upd f_reg 3 ((f_reg 3) + 1)) 6 ((f_reg 6) + 1)) f_memory f_timers f_timers_process f_timers_time f_timers_isBy f_links_0 f_links_1 f_dia f_dia_meetings; u8.1 = 0 ∨ u8.1 = 1))) ∧ (¬ ((f_prg_op ((f_reg 3 : Int32).toNatClampNeg)) = 26) → (OX3_communicate 0 (upd f_this 7 (f_reg 5)) (upd (upd f_reg 3 ((f_reg 3) + 1)) 6 ((f_reg 6) + 1)) f_memory f_timers f_timers_process f_timers_time f_timers_isBy f_links_0 f_links_1 f_dia f_dia_meetings ∧ (let u11 := FX3_communicate 0 (upd f_this 7 (f_reg 5)) (upd (upd f_reg 3 ((f_reg 3) + 1)) 6 ((f_reg 6) + 1)) f_memory f_timers f_timers_process f_timers_time f_timers_isBy f_links_0 f_links_1 f_dia f_dia_meetings; u11.1 = 0 ∨ u11.1 = 1))))) ∧ (¬ ((f_prg_op ((f_reg 3 : Int32).toNatClampNeg)) = 25) → (((f_prg_op ((f_reg 3 : Int32).toNatClampNeg)) = 26 → (((f_prg_op ((f_reg 3 : Int32).toNatClampNeg)) = 26 → (OX3_communicate 1 (upd f_this 7 (f_reg 5)) (upd (upd f_reg 3 ((f_reg 3) + 1)) 6 ((f_reg 6) + 1)) f_memory f_timers f_timers_process f_timers_time f_timers_isBy f_links_0 f_links_1 f_dia f_dia_meetings ∧ (let u16 := FX3_communicate 1 (upd f_this 7 (f_reg 5)) (upd (upd f_reg 3 ((f_reg 3) + 1)) 6 ((f_reg 6) + 1)) f_memory f_timers f_timers_process f_timers_time f_timers_isBy f_links_0 f_links_1 f_dia f_dia_meetings; u16.1 = 0 ∨ u16.1 = 1))) ∧ (¬ ((f_prg_op ((f_reg 3 : Int32).toNatClampNeg)) = 26) → (OX3_communicate 0 (upd f_this 7 (f_reg 5)) (upd (upd f_reg 3 ((f_reg 3) + 1)) 6 ((f_reg 6) + 1)) f_memory f_timers f_timers_process f_timers_time f_timers_isBy f_links_0 f_links_1 f_dia f_dia_meetings ∧ (let u19 := FX3_communicate 0 (upd f_this 7 (f_reg 5)) (upd (upd f_reg 3 ((f_reg 3) + 1)) 6 ((f_reg 6) + 1)) f_memory f_timers f_timers_process f_timers_time f_timers_isBy f_links_0 f_links_1 f_dia f_dia_meetings; u19.1 = 0 ∨ u19.1 = 1))))) ∧ (¬ ((f_prg_op ((f_reg 3 : Int32).toNatClampNeg)) = 26) → ((25 ≤ (f_prg_op ((f_reg 3 : Int32).toNatClampNeg)) → (OX3_performOnGuards (f_prg_op ((f_reg 3 : Int32).toNatClampNeg)) (upd (upd f_reg 3 ((f_reg 3) + 1)) 6 ((f_reg 6) + 1)) f_memory f_timers f_timers_process f_timers_time f_timers_isBy f_links_0 f_links_1 ∧ (let u23 := FX3_performOnGuards (f_prg_op ((f_reg 3 : Int32).toNatClampNeg)) (upd (upd f_reg 3 ((f_reg 3) + 1)) 6 ((f_reg 6) + 1)) f_memory f_timers f_timers_process f_timers_time f_timers_isBy f_links_0 f_links_1; u23.1 = 0 ∨ u23.1 = 1))) ∧ (¬ (25 ≤ (f_prg_op ((f_reg 3 : Int32).toNatClampNeg))) → (OX3_performOnProcesses (f_prg_op ((f_reg 3 : Int32).toNatClampNeg)) (upd (upd f_reg 3 ((f_reg 3) + 1)) 6 ((f_reg 6) + 1)) f_memory f_timers f_timers_process f_timers_time f_timers_isBy ∧ (let u26 := FX3_performOnProcesses (f_prg_op ((f_reg 3 : Int32).toNatClampNeg)) (upd (upd f_reg 3 ((f_reg 3) + 1)) 6 ((f_reg 6) + 1)) f_memory f_timers f_timers_process f_timers_time f_timers_isBy; u26.1 = 0 ∨ u26.1 = 1))))))))) ∧ (¬ (18 ≤ (f_prg_op ((f_reg 3 : Int32).toNatClampNeg))) → (OX3_performOnWords (f_prg_op ((f_reg 3 : Int32).toNatClampNeg)) (upd (upd f_reg 3 ((f_reg 3) + 1)) 6 ((f_reg 6) + 1)) f_memory ∧ (let u29 := FX3_performOnWords (f_prg_op ((f_reg 3 : Int32).toNatClampNeg)) (upd (upd f_reg 3 ((f_reg 3) + 1)) 6 ((f_reg 6) + 1)) f_memory; u29.1 = 0 ∨ u29.1 = 1))))) ∧ (¬ (10 ≤ (f_prg_op ((f_reg 3 : Int32).toNatClampNeg))) → (vp_in (f_reg 3) 100 ∧ (OX3_performTold (f_prg_op ((f_reg 3 : Int32).toNatClampNeg)) (f_prg_number ((f_reg 3 : Int32).toNatClampNeg)) x2 (upd (upd f_reg 3 ((f_reg 3) + 1)) 6 ((f_reg 6) + 1)) f_memory ∧ (let u33 := FX3_performTold (f_prg_op ((f_reg 3 : Int32).toNatClampNeg)) (f_prg_number ((f_reg 3 : Int32).toNatClampNeg)) x2 (upd (upd f_reg 3 ((f_reg 3) + 1)) 6 ((f_reg 6) + 1)) f_memory; u33.1 = 0 ∨ u33.1 = 1))))))) ∧ (¬ ((f_reg 3) < (f_prg 1)) → True)))
set_option maxRecDepth 20000 in
theorem tX3_perform {d : Nat} {B : mB} {v : mV} {w : mX} {Q : Option Int32 → mMH → Prop} {b g pg : Nat} (hB : isMach B b g) (hd : g + 2 ≤ b) (hG : isPrg B pg) (hpg : pg + 14 ≤ g) (x2 : Int32) (f_this : mF) (f_reg : mF) (f_memory : mF) (f_timers : mF) (f_timers_process : mF) (f_timers_time : mF) (f_timers_isBy : mF) (f_links_0 : mF) (f_links_1 : mF) (f_dia : mF) (f_dia_meetings : mF) (f_prg : mF) (f_prg_op : mF) (f_prg_number : mF) (hO : OX3_perform x2 f_this f_reg f_memory f_timers f_timers_process f_timers_time f_timers_isBy f_links_0 f_links_1 f_dia f_dia_meetings f_prg f_prg_op f_prg_number) (hQ : Q (some ((FX3_perform x2 f_this f_reg f_memory f_timers f_timers_process f_timers_time f_timers_isBy f_links_0 f_links_1 f_dia f_dia_meetings f_prg f_prg_op f_prg_number).1)) (mH B (mE v [(b, (FX3_perform x2 f_this f_reg f_memory f_timers f_timers_process f_timers_time f_timers_isBy f_links_0 f_links_1 f_dia f_dia_meetings f_prg f_prg_op f_prg_number).2.1), (b + 1, (FX3_perform x2 f_this f_reg f_memory f_timers f_timers_process f_timers_time f_timers_isBy f_links_0 f_links_1 f_dia f_dia_meetings f_prg f_prg_op f_prg_number).2.2.1), (b + 3, (FX3_perform x2 f_this f_reg f_memory f_timers f_timers_process f_timers_time f_timers_isBy f_links_0 f_links_1 f_dia f_dia_meetings f_prg f_prg_op f_prg_number).2.2.2.1), (b + 4, (FX3_perform x2 f_this f_reg f_memory f_timers f_timers_process f_timers_time f_timers_isBy f_links_0 f_links_1 f_dia f_dia_meetings f_prg f_prg_op f_prg_number).2.2.2.2.1), (b + 4 + 1, (FX3_perform x2 f_this f_reg f_memory f_timers f_timers_process f_timers_time f_timers_isBy f_links_0 f_links_1 f_dia f_dia_meetings f_prg f_prg_op f_prg_number).2.2.2.2.2.1), (b + 4 + 2, (FX3_perform x2 f_this f_reg f_memory f_timers f_timers_process f_timers_time f_timers_isBy f_links_0 f_links_1 f_dia f_dia_meetings f_prg f_prg_op f_prg_number).2.2.2.2.2.2.1), (b + 4 + 3, (FX3_perform x2 f_this f_reg f_memory f_timers f_timers_process f_timers_time f_timers_isBy f_links_0 f_links_1 f_dia f_dia_meetings f_prg f_prg_op f_prg_number).2.2.2.2.2.2.2.1), (b + 9, (FX3_perform x2 f_this f_reg f_memory f_timers f_timers_process f_timers_time f_timers_isBy f_links_0 f_links_1 f_dia f_dia_meetings f_prg f_prg_op f_prg_number).2.2.2.2.2.2.2.2.1), (b + 10, (FX3_perform x2 f_this f_reg f_memory f_timers f_timers_process f_timers_time f_timers_isBy f_links_0 f_links_1 f_dia f_dia_meetings f_prg f_prg_op f_prg_number).2.2.2.2.2.2.2.2.2.1), (g, (FX3_perform x2 f_this f_reg f_memory f_timers f_timers_process f_timers_time f_timers_isBy f_links_0 f_links_1 f_dia f_dia_meetings f_prg f_prg_op f_prg_number).2.2.2.2.2.2.2.2.2.2.1), (g + 1, (FX3_perform x2 f_this f_reg f_memory f_timers f_timers_process f_timers_time f_timers_isBy f_links_0 f_links_1 f_dia f_dia_meetings f_prg f_prg_op f_prg_number).2.2.2.2.2.2.2.2.2.2.2), (pg, f_prg), (pg + 1, f_prg_op), (pg + 2, f_prg_number)]) w)) : CQ (d + 5) 39 [.ref b, .ref pg, .int x2] (mH B (mE v [(b, f_this), (b + 1, f_reg), (b + 3, f_memory), (b + 4, f_timers), (b + 4 + 1, f_timers_process), (b + 4 + 2, f_timers_time), (b + 4 + 3, f_timers_isBy), (b + 9, f_links_0), (b + 10, f_links_1), (g, f_dia), (g + 1, f_dia_meetings), (pg, f_prg), (pg + 1, f_prg_op), (pg + 2, f_prg_number)]) w) Q := by
  have hn : ∀ (f_this : mF) (f_reg : mF) (f_memory : mF) (f_timers : mF) (f_timers_process : mF) (f_timers_time : mF) (f_timers_isBy : mF) (f_links_0 : mF) (f_links_1 : mF) (f_dia : mF) (f_dia_meetings : mF) (f_prg : mF) (f_prg_op : mF) (f_prg_number : mF), mNd [(b, f_this), (b + 1, f_reg), (b + 3, f_memory), (b + 4, f_timers), (b + 4 + 1, f_timers_process), (b + 4 + 2, f_timers_time), (b + 4 + 3, f_timers_isBy), (b + 9, f_links_0), (b + 10, f_links_1), (g, f_dia), (g + 1, f_dia_meetings), (pg, f_prg), (pg + 1, f_prg_op), (pg + 2, f_prg_number)] := fun _ _ _ _ _ _ _ _ _ _ _ _ _ _ => by
    show List.Nodup _
    simp only [List.map_cons, List.map_nil, List.nodup_cons, List.mem_cons, List.not_mem_nil, or_false, not_or, not_false_eq_true, List.nodup_nil, and_true]
    omega
  obtain ⟨P, hPQ, hP⟩ : ∃ P : Int32 × mF × mF × mF × mF × mF × mF × mF × mF × mF × mF × mF → Prop, (∀ (q : Int32) (q0 : mF) (q1 : mF) (q2 : mF) (q3 : mF) (q4 : mF) (q5 : mF) (q6 : mF) (q7 : mF) (q8 : mF) (q9 : mF) (q10 : mF), P (q, q0, q1, q2, q3, q4, q5, q6, q7, q8, q9, q10) → Q (some q) (mH B (mE v [(b, q0), (b + 1, q1), (b + 3, q2), (b + 4, q3), (b + 4 + 1, q4), (b + 4 + 2, q5), (b + 4 + 3, q6), (b + 9, q7), (b + 10, q8), (g, q9), (g + 1, q10), (pg, f_prg), (pg + 1, f_prg_op), (pg + 2, f_prg_number)]) w)) ∧ P (FX3_perform x2 f_this f_reg f_memory f_timers f_timers_process f_timers_time f_timers_isBy f_links_0 f_links_1 f_dia f_dia_meetings f_prg f_prg_op f_prg_number) := ⟨fun res => Q (some res.1) (mH B (mE v [(b, res.2.1), (b + 1, res.2.2.1), (b + 3, res.2.2.2.1), (b + 4, res.2.2.2.2.1), (b + 4 + 1, res.2.2.2.2.2.1), (b + 4 + 2, res.2.2.2.2.2.2.1), (b + 4 + 3, res.2.2.2.2.2.2.2.1), (b + 9, res.2.2.2.2.2.2.2.2.1), (b + 10, res.2.2.2.2.2.2.2.2.2.1), (g, res.2.2.2.2.2.2.2.2.2.2.1), (g + 1, res.2.2.2.2.2.2.2.2.2.2.2), (pg, f_prg), (pg + 1, f_prg_op), (pg + 2, f_prg_number)]) w), fun _ _ _ _ _ _ _ _ _ _ _ _ h => h, hQ⟩
  refine r_begin mt_39 (by intro a ha; simp only [List.mem_cons, List.not_mem_nil, or_false] at ha; rcases ha with rfl | rfl | rfl <;> rfl) (Nat.le_of_ble_eq_true rfl) ?_
  rw [FX3_perform] at hP
  rw [OX3_perform] at hO
  show RB _ _ _ _ [some (.ref b), some (.ref pg), some (.int x2), none, none] [] _ _
  refine r_aload rfl ?_
  refine r_getr (q := b + 1) hB.1 hB.2.2.2.2.2.2.2.2.2.2.1 ?_
  refine r_int ?_
  refine r_ald (x := f_reg 3) 1 3 (hn _ _ _ _ _ _ _ _ _ _ _ _ _ _) rfl hB.2.1 (by decide) rfl (lt_in 3 20 rfl rfl) (lt_cl 3 rfl) rfl ?_
  refine r_istore (L' := [some (.ref b), some (.ref pg), some (.int x2), some (.int (f_reg 3)), none]) rfl rfl ?_
  refine r_iload rfl ?_
  refine r_if (fun c1 : (f_reg 3) < 0 => ?_) (fun c1 : ¬ ((f_reg 3) < 0) => ?_)
  · rw [if_pos c1] at hP
    have hO := hO.1 c1
    refine r_int ?_
    exact r_ret rfl rfl (hPQ 0 f_this f_reg f_memory f_timers f_timers_process f_timers_time f_timers_isBy f_links_0 f_links_1 f_dia f_dia_meetings hP)
  · rw [if_neg c1] at hP
    have hO := hO.2 c1
    refine r_iload rfl ?_
    refine r_aload rfl ?_
    refine r_get (x := f_prg 1) 11 (hn _ _ _ _ _ _ _ _ _ _ _ _ _ _) rfl hG.1 (by decide) rfl ?_
    refine r_icmp (fun c2 : (f_reg 3) < (f_prg 1) => ?_) (fun c2 : ¬ ((f_reg 3) < (f_prg 1)) => ?_)
    · rw [if_pos c2] at hP
      have hO := hO.1 c2
      refine r_aload rfl ?_
      refine r_getr (q := b + 1) hB.1 hB.2.2.2.2.2.2.2.2.2.2.1 ?_
      refine r_int ?_
      refine r_iload rfl ?_
      refine r_int ?_
      refine r_iadd ?_
      refine r_ast (y := (f_reg 3) + 1) (env' := [(b, f_this), (b + 1, (upd f_reg 3 ((f_reg 3) + 1))), (b + 3, f_memory), (b + 4, f_timers), (b + 4 + 1, f_timers_process), (b + 4 + 2, f_timers_time), (b + 4 + 3, f_timers_isBy), (b + 9, f_links_0), (b + 10, f_links_1), (g, f_dia), (g + 1, f_dia_meetings), (pg, f_prg), (pg + 1, f_prg_op), (pg + 2, f_prg_number)]) 1 3 (hn _ _ _ _ _ _ _ _ _ _ _ _ _ _) rfl hB.2.1 (by decide) rfl (lt_in 3 20 rfl rfl) (lt_cl 3 rfl) rfl rfl ?_
      refine r_aload rfl ?_
      refine r_getr (q := b + 1) hB.1 hB.2.2.2.2.2.2.2.2.2.2.1 ?_
      refine r_int ?_
      refine r_dup2 rfl rfl ?_
      refine r_ald (x := f_reg 6) 1 6 (hn _ _ _ _ _ _ _ _ _ _ _ _ _ _) rfl hB.2.1 (by decide) rfl (lt_in 6 20 rfl rfl) (lt_cl 6 rfl) (pk_un (nebq rfl)) ?_
      refine r_int ?_
      refine r_iadd ?_
      refine r_ast (y := (f_reg 6) + 1) (env' := [(b, f_this), (b + 1, (upd (upd f_reg 3 ((f_reg 3) + 1)) 6 ((f_reg 6) + 1))), (b + 3, f_memory), (b + 4, f_timers), (b + 4 + 1, f_timers_process), (b + 4 + 2, f_timers_time), (b + 4 + 3, f_timers_isBy), (b + 9, f_links_0), (b + 10, f_links_1), (g, f_dia), (g + 1, f_dia_meetings), (pg, f_prg), (pg + 1, f_prg_op), (pg + 2, f_prg_number)]) 1 6 (hn _ _ _ _ _ _ _ _ _ _ _ _ _ _) rfl hB.2.1 (by decide) rfl (lt_in 6 20 rfl rfl) (lt_cl 6 rfl) rfl rfl ?_
      refine r_aload rfl ?_
      refine r_aload rfl ?_
      refine r_getr (q := b + 1) hB.1 hB.2.2.2.2.2.2.2.2.2.2.1 ?_
      refine r_int ?_
      refine r_ald (x := f_reg 5) 1 5 (hn _ _ _ _ _ _ _ _ _ _ _ _ _ _) rfl hB.2.1 (by decide) rfl (lt_in 5 20 rfl rfl) (lt_cl 5 rfl) (Eq.trans (pk_un (nebq rfl)) (pk_un (nebq rfl))) ?_
      refine r_put (env' := [(b, (upd f_this 7 (f_reg 5))), (b + 1, (upd (upd f_reg 3 ((f_reg 3) + 1)) 6 ((f_reg 6) + 1))), (b + 3, f_memory), (b + 4, f_timers), (b + 4 + 1, f_timers_process), (b + 4 + 2, f_timers_time), (b + 4 + 3, f_timers_isBy), (b + 9, f_links_0), (b + 10, f_links_1), (g, f_dia), (g + 1, f_dia_meetings), (pg, f_prg), (pg + 1, f_prg_op), (pg + 2, f_prg_number)]) 0 (hn _ _ _ _ _ _ _ _ _ _ _ _ _ _) rfl rfl hB.1 ?_
      refine r_aload rfl ?_
      refine r_getr (q := pg + 1) hG.1 hG.2.2.2.2.2.2.2.2.2.2.2.2.2.2.1 ?_
      refine r_iload rfl ?_
      obtain ⟨h3, hO⟩ := hO
      refine r_ald (x := f_prg_op ((f_reg 3 : Int32).toNatClampNeg)) 12 ((f_reg 3 : Int32).toNatClampNeg) (hn _ _ _ _ _ _ _ _ _ _ _ _ _ _) rfl hG.2.1 (by decide) rfl h3 rfl rfl ?_
      refine r_istore (L' := [some (.ref b), some (.ref pg), some (.int x2), some (.int (f_reg 3)), some (.int (f_prg_op ((f_reg 3 : Int32).toNatClampNeg)))]) rfl rfl ?_
      refine r_iload rfl ?_
      refine r_int ?_
      refine r_icmp (fun c4 : 10 ≤ (f_prg_op ((f_reg 3 : Int32).toNatClampNeg)) => ?_) (fun c4 : ¬ (10 ≤ (f_prg_op ((f_reg 3 : Int32).toNatClampNeg))) => ?_)
      · rw [if_pos c4] at hP
        have hO := hO.1 c4
        refine r_iload rfl ?_
        refine r_int ?_
        refine r_icmp (fun c5 : 18 ≤ (f_prg_op ((f_reg 3 : Int32).toNatClampNeg)) => ?_) (fun c5 : ¬ (18 ≤ (f_prg_op ((f_reg 3 : Int32).toNatClampNeg))) => ?_)
        · rw [if_pos c5] at hP
          have hO := hO.1 c5
          refine r_iload rfl ?_
          refine r_int ?_
          refine r_icmp (fun c6 : (f_prg_op ((f_reg 3 : Int32).toNatClampNeg)) = 25 => ?_) (fun c6 : ¬ ((f_prg_op ((f_reg 3 : Int32).toNatClampNeg)) = 25) => ?_)
          · rw [if_pos c6] at hP
            have hO := hO.1 c6
            refine r_aload rfl ?_
            refine r_iload rfl ?_
            refine r_int ?_
            refine r_icmp1 (fun c7 : (f_prg_op ((f_reg 3 : Int32).toNatClampNeg)) = 26 => ?_) (fun c7 : ¬ ((f_prg_op ((f_reg 3 : Int32).toNatClampNeg)) = 26) => ?_)
            · rw [if_pos c7] at hP
              have hO := hO.1 c7
              refine r_int ?_
              refine r_goto ?_
              obtain ⟨h9, hO⟩ := hO
              have k10 := fun (Q' : Option Int32 → mMH → Prop) hq => tX3_communicate (d := d + 0) (B := B) (v := mE v [(b, (upd f_this 7 (f_reg 5))), (b + 1, (upd (upd f_reg 3 ((f_reg 3) + 1)) 6 ((f_reg 6) + 1))), (b + 3, f_memory), (b + 4, f_timers), (b + 4 + 1, f_timers_process), (b + 4 + 2, f_timers_time), (b + 4 + 3, f_timers_isBy), (b + 9, f_links_0), (b + 10, f_links_1), (g, f_dia), (g + 1, f_dia_meetings), (pg, f_prg), (pg + 1, f_prg_op), (pg + 2, f_prg_number)]) (w := w) (Q := Q') hB (by omega) 1 (upd f_this 7 (f_reg 5)) (upd (upd f_reg 3 ((f_reg 3) + 1)) 6 ((f_reg 6) + 1)) f_memory f_timers f_timers_process f_timers_time f_timers_isBy f_links_0 f_links_1 f_dia f_dia_meetings h9 hq
              generalize hg_u8 : FX3_communicate 1 (upd f_this 7 (f_reg 5)) (upd (upd f_reg 3 ((f_reg 3) + 1)) 6 ((f_reg 6) + 1)) f_memory f_timers f_timers_process f_timers_time f_timers_isBy f_links_0 f_links_1 f_dia f_dia_meetings = u8 at k10 hP hO
              try dsimp only at hP hO
              refine r_callM (st := []) (o := b) (as := [.int 1]) (envc := [(b, (upd f_this 7 (f_reg 5))), (b + 1, (upd (upd f_reg 3 ((f_reg 3) + 1)) 6 ((f_reg 6) + 1))), (b + 3, f_memory), (b + 4, f_timers), (b + 4 + 1, f_timers_process), (b + 4 + 2, f_timers_time), (b + 4 + 3, f_timers_isBy), (b + 9, f_links_0), (b + 10, f_links_1), (g, f_dia), (g + 1, f_dia_meetings)]) (envc' := [(b, (upd f_this 7 (f_reg 5))), (b + 1, u8.2.1), (b + 3, u8.2.2.1), (b + 4, u8.2.2.2.1), (b + 4 + 1, u8.2.2.2.2.1), (b + 4 + 2, u8.2.2.2.2.2.1), (b + 4 + 3, u8.2.2.2.2.2.2.1), (b + 9, u8.2.2.2.2.2.2.2.1), (b + 10, u8.2.2.2.2.2.2.2.2.1), (g, u8.2.2.2.2.2.2.2.2.2.1), (g + 1, u8.2.2.2.2.2.2.2.2.2.2)]) (env' := [(b, (upd f_this 7 (f_reg 5))), (b + 1, u8.2.1), (b + 3, u8.2.2.1), (b + 4, u8.2.2.2.1), (b + 4 + 1, u8.2.2.2.2.1), (b + 4 + 2, u8.2.2.2.2.2.1), (b + 4 + 3, u8.2.2.2.2.2.2.1), (b + 9, u8.2.2.2.2.2.2.2.1), (b + 10, u8.2.2.2.2.2.2.2.2.1), (g, u8.2.2.2.2.2.2.2.2.2.1), (g + 1, u8.2.2.2.2.2.2.2.2.2.2), (pg, f_prg), (pg + 1, f_prg_op), (pg + 2, f_prg_number)]) (rv := some u8.1) [true, true, true, true, true, true, true, true, true, true, true, false, false, false] (hn _ _ _ _ _ _ _ _ _ _ _ _ _ _) rfl rfl (Nat.le_of_ble_eq_true rfl) hB.1 rfl [b, b + 1, b + 3, b + 4, b + 4 + 1, b + 4 + 2, b + 4 + 3, b + 9, b + 10, g, g + 1] rfl rfl rfl k10 ?_
              show RB _ _ _ _ _ [.int u8.1] _ _
              exact r_ret rfl (nz_ok hO) (hPQ u8.1 (upd f_this 7 (f_reg 5)) u8.2.1 u8.2.2.1 u8.2.2.2.1 u8.2.2.2.2.1 u8.2.2.2.2.2.1 u8.2.2.2.2.2.2.1 u8.2.2.2.2.2.2.2.1 u8.2.2.2.2.2.2.2.2.1 u8.2.2.2.2.2.2.2.2.2.1 u8.2.2.2.2.2.2.2.2.2.2 hP)
            · rw [if_neg c7] at hP
              have hO := hO.2 c7
              refine r_int ?_
              refine r_fall ?_
              obtain ⟨h12, hO⟩ := hO
              have k13 := fun (Q' : Option Int32 → mMH → Prop) hq => tX3_communicate (d := d + 0) (B := B) (v := mE v [(b, (upd f_this 7 (f_reg 5))), (b + 1, (upd (upd f_reg 3 ((f_reg 3) + 1)) 6 ((f_reg 6) + 1))), (b + 3, f_memory), (b + 4, f_timers), (b + 4 + 1, f_timers_process), (b + 4 + 2, f_timers_time), (b + 4 + 3, f_timers_isBy), (b + 9, f_links_0), (b + 10, f_links_1), (g, f_dia), (g + 1, f_dia_meetings), (pg, f_prg), (pg + 1, f_prg_op), (pg + 2, f_prg_number)]) (w := w) (Q := Q') hB (by omega) 0 (upd f_this 7 (f_reg 5)) (upd (upd f_reg 3 ((f_reg 3) + 1)) 6 ((f_reg 6) + 1)) f_memory f_timers f_timers_process f_timers_time f_timers_isBy f_links_0 f_links_1 f_dia f_dia_meetings h12 hq
              generalize hg_u11 : FX3_communicate 0 (upd f_this 7 (f_reg 5)) (upd (upd f_reg 3 ((f_reg 3) + 1)) 6 ((f_reg 6) + 1)) f_memory f_timers f_timers_process f_timers_time f_timers_isBy f_links_0 f_links_1 f_dia f_dia_meetings = u11 at k13 hP hO
              try dsimp only at hP hO
              refine r_callM (st := []) (o := b) (as := [.int 0]) (envc := [(b, (upd f_this 7 (f_reg 5))), (b + 1, (upd (upd f_reg 3 ((f_reg 3) + 1)) 6 ((f_reg 6) + 1))), (b + 3, f_memory), (b + 4, f_timers), (b + 4 + 1, f_timers_process), (b + 4 + 2, f_timers_time), (b + 4 + 3, f_timers_isBy), (b + 9, f_links_0), (b + 10, f_links_1), (g, f_dia), (g + 1, f_dia_meetings)]) (envc' := [(b, (upd f_this 7 (f_reg 5))), (b + 1, u11.2.1), (b + 3, u11.2.2.1), (b + 4, u11.2.2.2.1), (b + 4 + 1, u11.2.2.2.2.1), (b + 4 + 2, u11.2.2.2.2.2.1), (b + 4 + 3, u11.2.2.2.2.2.2.1), (b + 9, u11.2.2.2.2.2.2.2.1), (b + 10, u11.2.2.2.2.2.2.2.2.1), (g, u11.2.2.2.2.2.2.2.2.2.1), (g + 1, u11.2.2.2.2.2.2.2.2.2.2)]) (env' := [(b, (upd f_this 7 (f_reg 5))), (b + 1, u11.2.1), (b + 3, u11.2.2.1), (b + 4, u11.2.2.2.1), (b + 4 + 1, u11.2.2.2.2.1), (b + 4 + 2, u11.2.2.2.2.2.1), (b + 4 + 3, u11.2.2.2.2.2.2.1), (b + 9, u11.2.2.2.2.2.2.2.1), (b + 10, u11.2.2.2.2.2.2.2.2.1), (g, u11.2.2.2.2.2.2.2.2.2.1), (g + 1, u11.2.2.2.2.2.2.2.2.2.2), (pg, f_prg), (pg + 1, f_prg_op), (pg + 2, f_prg_number)]) (rv := some u11.1) [true, true, true, true, true, true, true, true, true, true, true, false, false, false] (hn _ _ _ _ _ _ _ _ _ _ _ _ _ _) rfl rfl (Nat.le_of_ble_eq_true rfl) hB.1 rfl [b, b + 1, b + 3, b + 4, b + 4 + 1, b + 4 + 2, b + 4 + 3, b + 9, b + 10, g, g + 1] rfl rfl rfl k13 ?_
              show RB _ _ _ _ _ [.int u11.1] _ _
              exact r_ret rfl (nz_ok hO) (hPQ u11.1 (upd f_this 7 (f_reg 5)) u11.2.1 u11.2.2.1 u11.2.2.2.1 u11.2.2.2.2.1 u11.2.2.2.2.2.1 u11.2.2.2.2.2.2.1 u11.2.2.2.2.2.2.2.1 u11.2.2.2.2.2.2.2.2.1 u11.2.2.2.2.2.2.2.2.2.1 u11.2.2.2.2.2.2.2.2.2.2 hP)
          · rw [if_neg c6] at hP
            have hO := hO.2 c6
            refine r_iload rfl ?_
            refine r_int ?_
            refine r_icmp1 (fun c14 : (f_prg_op ((f_reg 3 : Int32).toNatClampNeg)) = 26 => ?_) (fun c14 : ¬ ((f_prg_op ((f_reg 3 : Int32).toNatClampNeg)) = 26) => ?_)
            · rw [if_pos c14] at hP
              have hO := hO.1 c14
              refine r_fall ?_
              refine r_aload rfl ?_
              refine r_iload rfl ?_
              refine r_int ?_
              refine r_icmp1 (fun c15 : (f_prg_op ((f_reg 3 : Int32).toNatClampNeg)) = 26 => ?_) (fun c15 : ¬ ((f_prg_op ((f_reg 3 : Int32).toNatClampNeg)) = 26) => ?_)
              · rw [if_pos c15] at hP
                have hO := hO.1 c15
                refine r_int ?_
                refine r_goto ?_
                obtain ⟨h17, hO⟩ := hO
                have k18 := fun (Q' : Option Int32 → mMH → Prop) hq => tX3_communicate (d := d + 0) (B := B) (v := mE v [(b, (upd f_this 7 (f_reg 5))), (b + 1, (upd (upd f_reg 3 ((f_reg 3) + 1)) 6 ((f_reg 6) + 1))), (b + 3, f_memory), (b + 4, f_timers), (b + 4 + 1, f_timers_process), (b + 4 + 2, f_timers_time), (b + 4 + 3, f_timers_isBy), (b + 9, f_links_0), (b + 10, f_links_1), (g, f_dia), (g + 1, f_dia_meetings), (pg, f_prg), (pg + 1, f_prg_op), (pg + 2, f_prg_number)]) (w := w) (Q := Q') hB (by omega) 1 (upd f_this 7 (f_reg 5)) (upd (upd f_reg 3 ((f_reg 3) + 1)) 6 ((f_reg 6) + 1)) f_memory f_timers f_timers_process f_timers_time f_timers_isBy f_links_0 f_links_1 f_dia f_dia_meetings h17 hq
                generalize hg_u16 : FX3_communicate 1 (upd f_this 7 (f_reg 5)) (upd (upd f_reg 3 ((f_reg 3) + 1)) 6 ((f_reg 6) + 1)) f_memory f_timers f_timers_process f_timers_time f_timers_isBy f_links_0 f_links_1 f_dia f_dia_meetings = u16 at k18 hP hO
                try dsimp only at hP hO
                refine r_callM (st := []) (o := b) (as := [.int 1]) (envc := [(b, (upd f_this 7 (f_reg 5))), (b + 1, (upd (upd f_reg 3 ((f_reg 3) + 1)) 6 ((f_reg 6) + 1))), (b + 3, f_memory), (b + 4, f_timers), (b + 4 + 1, f_timers_process), (b + 4 + 2, f_timers_time), (b + 4 + 3, f_timers_isBy), (b + 9, f_links_0), (b + 10, f_links_1), (g, f_dia), (g + 1, f_dia_meetings)]) (envc' := [(b, (upd f_this 7 (f_reg 5))), (b + 1, u16.2.1), (b + 3, u16.2.2.1), (b + 4, u16.2.2.2.1), (b + 4 + 1, u16.2.2.2.2.1), (b + 4 + 2, u16.2.2.2.2.2.1), (b + 4 + 3, u16.2.2.2.2.2.2.1), (b + 9, u16.2.2.2.2.2.2.2.1), (b + 10, u16.2.2.2.2.2.2.2.2.1), (g, u16.2.2.2.2.2.2.2.2.2.1), (g + 1, u16.2.2.2.2.2.2.2.2.2.2)]) (env' := [(b, (upd f_this 7 (f_reg 5))), (b + 1, u16.2.1), (b + 3, u16.2.2.1), (b + 4, u16.2.2.2.1), (b + 4 + 1, u16.2.2.2.2.1), (b + 4 + 2, u16.2.2.2.2.2.1), (b + 4 + 3, u16.2.2.2.2.2.2.1), (b + 9, u16.2.2.2.2.2.2.2.1), (b + 10, u16.2.2.2.2.2.2.2.2.1), (g, u16.2.2.2.2.2.2.2.2.2.1), (g + 1, u16.2.2.2.2.2.2.2.2.2.2), (pg, f_prg), (pg + 1, f_prg_op), (pg + 2, f_prg_number)]) (rv := some u16.1) [true, true, true, true, true, true, true, true, true, true, true, false, false, false] (hn _ _ _ _ _ _ _ _ _ _ _ _ _ _) rfl rfl (Nat.le_of_ble_eq_true rfl) hB.1 rfl [b, b + 1, b + 3, b + 4, b + 4 + 1, b + 4 + 2, b + 4 + 3, b + 9, b + 10, g, g + 1] rfl rfl rfl k18 ?_
                show RB _ _ _ _ _ [.int u16.1] _ _
                exact r_ret rfl (nz_ok hO) (hPQ u16.1 (upd f_this 7 (f_reg 5)) u16.2.1 u16.2.2.1 u16.2.2.2.1 u16.2.2.2.2.1 u16.2.2.2.2.2.1 u16.2.2.2.2.2.2.1 u16.2.2.2.2.2.2.2.1 u16.2.2.2.2.2.2.2.2.1 u16.2.2.2.2.2.2.2.2.2.1 u16.2.2.2.2.2.2.2.2.2.2 hP)
              · rw [if_neg c15] at hP
                have hO := hO.2 c15
                refine r_int ?_
                refine r_fall ?_
                obtain ⟨h20, hO⟩ := hO
                have k21 := fun (Q' : Option Int32 → mMH → Prop) hq => tX3_communicate (d := d + 0) (B := B) (v := mE v [(b, (upd f_this 7 (f_reg 5))), (b + 1, (upd (upd f_reg 3 ((f_reg 3) + 1)) 6 ((f_reg 6) + 1))), (b + 3, f_memory), (b + 4, f_timers), (b + 4 + 1, f_timers_process), (b + 4 + 2, f_timers_time), (b + 4 + 3, f_timers_isBy), (b + 9, f_links_0), (b + 10, f_links_1), (g, f_dia), (g + 1, f_dia_meetings), (pg, f_prg), (pg + 1, f_prg_op), (pg + 2, f_prg_number)]) (w := w) (Q := Q') hB (by omega) 0 (upd f_this 7 (f_reg 5)) (upd (upd f_reg 3 ((f_reg 3) + 1)) 6 ((f_reg 6) + 1)) f_memory f_timers f_timers_process f_timers_time f_timers_isBy f_links_0 f_links_1 f_dia f_dia_meetings h20 hq
                generalize hg_u19 : FX3_communicate 0 (upd f_this 7 (f_reg 5)) (upd (upd f_reg 3 ((f_reg 3) + 1)) 6 ((f_reg 6) + 1)) f_memory f_timers f_timers_process f_timers_time f_timers_isBy f_links_0 f_links_1 f_dia f_dia_meetings = u19 at k21 hP hO
                try dsimp only at hP hO
                refine r_callM (st := []) (o := b) (as := [.int 0]) (envc := [(b, (upd f_this 7 (f_reg 5))), (b + 1, (upd (upd f_reg 3 ((f_reg 3) + 1)) 6 ((f_reg 6) + 1))), (b + 3, f_memory), (b + 4, f_timers), (b + 4 + 1, f_timers_process), (b + 4 + 2, f_timers_time), (b + 4 + 3, f_timers_isBy), (b + 9, f_links_0), (b + 10, f_links_1), (g, f_dia), (g + 1, f_dia_meetings)]) (envc' := [(b, (upd f_this 7 (f_reg 5))), (b + 1, u19.2.1), (b + 3, u19.2.2.1), (b + 4, u19.2.2.2.1), (b + 4 + 1, u19.2.2.2.2.1), (b + 4 + 2, u19.2.2.2.2.2.1), (b + 4 + 3, u19.2.2.2.2.2.2.1), (b + 9, u19.2.2.2.2.2.2.2.1), (b + 10, u19.2.2.2.2.2.2.2.2.1), (g, u19.2.2.2.2.2.2.2.2.2.1), (g + 1, u19.2.2.2.2.2.2.2.2.2.2)]) (env' := [(b, (upd f_this 7 (f_reg 5))), (b + 1, u19.2.1), (b + 3, u19.2.2.1), (b + 4, u19.2.2.2.1), (b + 4 + 1, u19.2.2.2.2.1), (b + 4 + 2, u19.2.2.2.2.2.1), (b + 4 + 3, u19.2.2.2.2.2.2.1), (b + 9, u19.2.2.2.2.2.2.2.1), (b + 10, u19.2.2.2.2.2.2.2.2.1), (g, u19.2.2.2.2.2.2.2.2.2.1), (g + 1, u19.2.2.2.2.2.2.2.2.2.2), (pg, f_prg), (pg + 1, f_prg_op), (pg + 2, f_prg_number)]) (rv := some u19.1) [true, true, true, true, true, true, true, true, true, true, true, false, false, false] (hn _ _ _ _ _ _ _ _ _ _ _ _ _ _) rfl rfl (Nat.le_of_ble_eq_true rfl) hB.1 rfl [b, b + 1, b + 3, b + 4, b + 4 + 1, b + 4 + 2, b + 4 + 3, b + 9, b + 10, g, g + 1] rfl rfl rfl k21 ?_
                show RB _ _ _ _ _ [.int u19.1] _ _
                exact r_ret rfl (nz_ok hO) (hPQ u19.1 (upd f_this 7 (f_reg 5)) u19.2.1 u19.2.2.1 u19.2.2.2.1 u19.2.2.2.2.1 u19.2.2.2.2.2.1 u19.2.2.2.2.2.2.1 u19.2.2.2.2.2.2.2.1 u19.2.2.2.2.2.2.2.2.1 u19.2.2.2.2.2.2.2.2.2.1 u19.2.2.2.2.2.2.2.2.2.2 hP)
            · rw [if_neg c14] at hP
              have hO := hO.2 c14
              refine r_iload rfl ?_
              refine r_int ?_
              refine r_icmp (fun c22 : 25 ≤ (f_prg_op ((f_reg 3 : Int32).toNatClampNeg)) => ?_) (fun c22 : ¬ (25 ≤ (f_prg_op ((f_reg 3 : Int32).toNatClampNeg))) => ?_)
              · rw [if_pos c22] at hP
                have hO := hO.1 c22
                refine r_aload rfl ?_
                refine r_iload rfl ?_
                obtain ⟨h24, hO⟩ := hO
                have k25 := fun (Q' : Option Int32 → mMH → Prop) hq => tX3_performOnGuards (d := d + 0) (B := B) (v := mE v [(b, (upd f_this 7 (f_reg 5))), (b + 1, (upd (upd f_reg 3 ((f_reg 3) + 1)) 6 ((f_reg 6) + 1))), (b + 3, f_memory), (b + 4, f_timers), (b + 4 + 1, f_timers_process), (b + 4 + 2, f_timers_time), (b + 4 + 3, f_timers_isBy), (b + 9, f_links_0), (b + 10, f_links_1), (g, f_dia), (g + 1, f_dia_meetings), (pg, f_prg), (pg + 1, f_prg_op), (pg + 2, f_prg_number)]) (w := w) (Q := Q') hB (by omega) (f_prg_op ((f_reg 3 : Int32).toNatClampNeg)) (upd (upd f_reg 3 ((f_reg 3) + 1)) 6 ((f_reg 6) + 1)) f_memory f_timers f_timers_process f_timers_time f_timers_isBy f_links_0 f_links_1 h24 hq
                generalize hg_u23 : FX3_performOnGuards (f_prg_op ((f_reg 3 : Int32).toNatClampNeg)) (upd (upd f_reg 3 ((f_reg 3) + 1)) 6 ((f_reg 6) + 1)) f_memory f_timers f_timers_process f_timers_time f_timers_isBy f_links_0 f_links_1 = u23 at k25 hP hO
                try dsimp only at hP hO
                refine r_callM (st := []) (o := b) (as := [.int (f_prg_op ((f_reg 3 : Int32).toNatClampNeg))]) (envc := [(b + 1, (upd (upd f_reg 3 ((f_reg 3) + 1)) 6 ((f_reg 6) + 1))), (b + 3, f_memory), (b + 4, f_timers), (b + 4 + 1, f_timers_process), (b + 4 + 2, f_timers_time), (b + 4 + 3, f_timers_isBy), (b + 9, f_links_0), (b + 10, f_links_1)]) (envc' := [(b + 1, u23.2.1), (b + 3, u23.2.2.1), (b + 4, u23.2.2.2.1), (b + 4 + 1, u23.2.2.2.2.1), (b + 4 + 2, u23.2.2.2.2.2.1), (b + 4 + 3, u23.2.2.2.2.2.2.1), (b + 9, u23.2.2.2.2.2.2.2.1), (b + 10, u23.2.2.2.2.2.2.2.2)]) (env' := [(b, (upd f_this 7 (f_reg 5))), (b + 1, u23.2.1), (b + 3, u23.2.2.1), (b + 4, u23.2.2.2.1), (b + 4 + 1, u23.2.2.2.2.1), (b + 4 + 2, u23.2.2.2.2.2.1), (b + 4 + 3, u23.2.2.2.2.2.2.1), (b + 9, u23.2.2.2.2.2.2.2.1), (b + 10, u23.2.2.2.2.2.2.2.2), (g, f_dia), (g + 1, f_dia_meetings), (pg, f_prg), (pg + 1, f_prg_op), (pg + 2, f_prg_number)]) (rv := some u23.1) [false, true, true, true, true, true, true, true, true, false, false, false, false, false] (hn _ _ _ _ _ _ _ _ _ _ _ _ _ _) rfl rfl (Nat.le_of_ble_eq_true rfl) hB.1 rfl [b + 1, b + 3, b + 4, b + 4 + 1, b + 4 + 2, b + 4 + 3, b + 9, b + 10] rfl rfl rfl k25 ?_
                show RB _ _ _ _ _ [.int u23.1] _ _
                refine r_fall ?_
                exact r_ret rfl (nz_ok hO) (hPQ u23.1 (upd f_this 7 (f_reg 5)) u23.2.1 u23.2.2.1 u23.2.2.2.1 u23.2.2.2.2.1 u23.2.2.2.2.2.1 u23.2.2.2.2.2.2.1 u23.2.2.2.2.2.2.2.1 u23.2.2.2.2.2.2.2.2 f_dia f_dia_meetings hP)
              · rw [if_neg c22] at hP
                have hO := hO.2 c22
                refine r_aload rfl ?_
                refine r_iload rfl ?_
                obtain ⟨h27, hO⟩ := hO
                have k28 := fun (Q' : Option Int32 → mMH → Prop) hq => tX3_performOnProcesses (d := d + 0) (B := B) (v := mE v [(b, (upd f_this 7 (f_reg 5))), (b + 1, (upd (upd f_reg 3 ((f_reg 3) + 1)) 6 ((f_reg 6) + 1))), (b + 3, f_memory), (b + 4, f_timers), (b + 4 + 1, f_timers_process), (b + 4 + 2, f_timers_time), (b + 4 + 3, f_timers_isBy), (b + 9, f_links_0), (b + 10, f_links_1), (g, f_dia), (g + 1, f_dia_meetings), (pg, f_prg), (pg + 1, f_prg_op), (pg + 2, f_prg_number)]) (w := w) (Q := Q') hB (by omega) (f_prg_op ((f_reg 3 : Int32).toNatClampNeg)) (upd (upd f_reg 3 ((f_reg 3) + 1)) 6 ((f_reg 6) + 1)) f_memory f_timers f_timers_process f_timers_time f_timers_isBy h27 hq
                generalize hg_u26 : FX3_performOnProcesses (f_prg_op ((f_reg 3 : Int32).toNatClampNeg)) (upd (upd f_reg 3 ((f_reg 3) + 1)) 6 ((f_reg 6) + 1)) f_memory f_timers f_timers_process f_timers_time f_timers_isBy = u26 at k28 hP hO
                try dsimp only at hP hO
                refine r_callM (st := []) (o := b) (as := [.int (f_prg_op ((f_reg 3 : Int32).toNatClampNeg))]) (envc := [(b + 1, (upd (upd f_reg 3 ((f_reg 3) + 1)) 6 ((f_reg 6) + 1))), (b + 3, f_memory), (b + 4, f_timers), (b + 4 + 1, f_timers_process), (b + 4 + 2, f_timers_time), (b + 4 + 3, f_timers_isBy)]) (envc' := [(b + 1, u26.2.1), (b + 3, u26.2.2.1), (b + 4, u26.2.2.2.1), (b + 4 + 1, u26.2.2.2.2.1), (b + 4 + 2, u26.2.2.2.2.2.1), (b + 4 + 3, u26.2.2.2.2.2.2)]) (env' := [(b, (upd f_this 7 (f_reg 5))), (b + 1, u26.2.1), (b + 3, u26.2.2.1), (b + 4, u26.2.2.2.1), (b + 4 + 1, u26.2.2.2.2.1), (b + 4 + 2, u26.2.2.2.2.2.1), (b + 4 + 3, u26.2.2.2.2.2.2), (b + 9, f_links_0), (b + 10, f_links_1), (g, f_dia), (g + 1, f_dia_meetings), (pg, f_prg), (pg + 1, f_prg_op), (pg + 2, f_prg_number)]) (rv := some u26.1) [false, true, true, true, true, true, true, false, false, false, false, false, false, false] (hn _ _ _ _ _ _ _ _ _ _ _ _ _ _) rfl rfl (Nat.le_of_ble_eq_true rfl) hB.1 rfl [b + 1, b + 3, b + 4, b + 4 + 1, b + 4 + 2, b + 4 + 3] rfl rfl rfl k28 ?_
                show RB _ _ _ _ _ [.int u26.1] _ _
                refine r_goto ?_
                exact r_ret rfl (nz_ok hO) (hPQ u26.1 (upd f_this 7 (f_reg 5)) u26.2.1 u26.2.2.1 u26.2.2.2.1 u26.2.2.2.2.1 u26.2.2.2.2.2.1 u26.2.2.2.2.2.2 f_links_0 f_links_1 f_dia f_dia_meetings hP)
        · rw [if_neg c5] at hP
          have hO := hO.2 c5
          refine r_aload rfl ?_
          refine r_iload rfl ?_
          obtain ⟨h30, hO⟩ := hO
          have k31 := fun (Q' : Option Int32 → mMH → Prop) hq => tX3_performOnWords (d := d + 1) (B := B) (v := mE v [(b, (upd f_this 7 (f_reg 5))), (b + 1, (upd (upd f_reg 3 ((f_reg 3) + 1)) 6 ((f_reg 6) + 1))), (b + 3, f_memory), (b + 4, f_timers), (b + 4 + 1, f_timers_process), (b + 4 + 2, f_timers_time), (b + 4 + 3, f_timers_isBy), (b + 9, f_links_0), (b + 10, f_links_1), (g, f_dia), (g + 1, f_dia_meetings), (pg, f_prg), (pg + 1, f_prg_op), (pg + 2, f_prg_number)]) (w := w) (Q := Q') hB (by omega) (f_prg_op ((f_reg 3 : Int32).toNatClampNeg)) (upd (upd f_reg 3 ((f_reg 3) + 1)) 6 ((f_reg 6) + 1)) f_memory h30 hq
          generalize hg_u29 : FX3_performOnWords (f_prg_op ((f_reg 3 : Int32).toNatClampNeg)) (upd (upd f_reg 3 ((f_reg 3) + 1)) 6 ((f_reg 6) + 1)) f_memory = u29 at k31 hP hO
          try dsimp only at hP hO
          refine r_callM (st := []) (o := b) (as := [.int (f_prg_op ((f_reg 3 : Int32).toNatClampNeg))]) (envc := [(b + 1, (upd (upd f_reg 3 ((f_reg 3) + 1)) 6 ((f_reg 6) + 1))), (b + 3, f_memory)]) (envc' := [(b + 1, u29.2.1), (b + 3, u29.2.2)]) (env' := [(b, (upd f_this 7 (f_reg 5))), (b + 1, u29.2.1), (b + 3, u29.2.2), (b + 4, f_timers), (b + 4 + 1, f_timers_process), (b + 4 + 2, f_timers_time), (b + 4 + 3, f_timers_isBy), (b + 9, f_links_0), (b + 10, f_links_1), (g, f_dia), (g + 1, f_dia_meetings), (pg, f_prg), (pg + 1, f_prg_op), (pg + 2, f_prg_number)]) (rv := some u29.1) [false, true, true, false, false, false, false, false, false, false, false, false, false, false] (hn _ _ _ _ _ _ _ _ _ _ _ _ _ _) rfl rfl (Nat.le_of_ble_eq_true rfl) hB.1 rfl [b + 1, b + 3] rfl rfl rfl k31 ?_
          show RB _ _ _ _ _ [.int u29.1] _ _
          exact r_ret rfl (nz_ok hO) (hPQ u29.1 (upd f_this 7 (f_reg 5)) u29.2.1 u29.2.2 f_timers f_timers_process f_timers_time f_timers_isBy f_links_0 f_links_1 f_dia f_dia_meetings hP)
      · rw [if_neg c4] at hP
        have hO := hO.2 c4
        refine r_aload rfl ?_
        refine r_iload rfl ?_
        refine r_aload rfl ?_
        refine r_getr (q := pg + 2) hG.1 hG.2.2.2.2.2.2.2.2.2.2.2.2.2.2.2.1 ?_
        refine r_iload rfl ?_
        obtain ⟨h32, hO⟩ := hO
        refine r_ald (x := f_prg_number ((f_reg 3 : Int32).toNatClampNeg)) 13 ((f_reg 3 : Int32).toNatClampNeg) (hn _ _ _ _ _ _ _ _ _ _ _ _ _ _) rfl hG.2.2.1 (by decide) rfl h32 rfl rfl ?_
        refine r_iload rfl ?_
        obtain ⟨h34, hO⟩ := hO
        have k35 := fun (Q' : Option Int32 → mMH → Prop) hq => tX3_performTold (d := d + 0) (B := B) (v := mE v [(b, (upd f_this 7 (f_reg 5))), (b + 1, (upd (upd f_reg 3 ((f_reg 3) + 1)) 6 ((f_reg 6) + 1))), (b + 3, f_memory), (b + 4, f_timers), (b + 4 + 1, f_timers_process), (b + 4 + 2, f_timers_time), (b + 4 + 3, f_timers_isBy), (b + 9, f_links_0), (b + 10, f_links_1), (g, f_dia), (g + 1, f_dia_meetings), (pg, f_prg), (pg + 1, f_prg_op), (pg + 2, f_prg_number)]) (w := w) (Q := Q') hB (by omega) (f_prg_op ((f_reg 3 : Int32).toNatClampNeg)) (f_prg_number ((f_reg 3 : Int32).toNatClampNeg)) x2 (upd (upd f_reg 3 ((f_reg 3) + 1)) 6 ((f_reg 6) + 1)) f_memory h34 hq
        generalize hg_u33 : FX3_performTold (f_prg_op ((f_reg 3 : Int32).toNatClampNeg)) (f_prg_number ((f_reg 3 : Int32).toNatClampNeg)) x2 (upd (upd f_reg 3 ((f_reg 3) + 1)) 6 ((f_reg 6) + 1)) f_memory = u33 at k35 hP hO
        try dsimp only at hP hO
        refine r_callM (st := []) (o := b) (as := [.int (f_prg_op ((f_reg 3 : Int32).toNatClampNeg)), .int (f_prg_number ((f_reg 3 : Int32).toNatClampNeg)), .int x2]) (envc := [(b + 1, (upd (upd f_reg 3 ((f_reg 3) + 1)) 6 ((f_reg 6) + 1))), (b + 3, f_memory)]) (envc' := [(b + 1, u33.2.1), (b + 3, u33.2.2)]) (env' := [(b, (upd f_this 7 (f_reg 5))), (b + 1, u33.2.1), (b + 3, u33.2.2), (b + 4, f_timers), (b + 4 + 1, f_timers_process), (b + 4 + 2, f_timers_time), (b + 4 + 3, f_timers_isBy), (b + 9, f_links_0), (b + 10, f_links_1), (g, f_dia), (g + 1, f_dia_meetings), (pg, f_prg), (pg + 1, f_prg_op), (pg + 2, f_prg_number)]) (rv := some u33.1) [false, true, true, false, false, false, false, false, false, false, false, false, false, false] (hn _ _ _ _ _ _ _ _ _ _ _ _ _ _) rfl rfl (Nat.le_of_ble_eq_true rfl) hB.1 rfl [b + 1, b + 3] rfl rfl rfl k35 ?_
        show RB _ _ _ _ _ [.int u33.1] _ _
        exact r_ret rfl (nz_ok hO) (hPQ u33.1 (upd f_this 7 (f_reg 5)) u33.2.1 u33.2.2 f_timers f_timers_process f_timers_time f_timers_isBy f_links_0 f_links_1 f_dia f_dia_meetings hP)
    · rw [if_neg c2] at hP
      have hO := hO.2 c2
      refine r_fall ?_
      refine r_int ?_
      exact r_ret rfl rfl (hPQ 0 f_this f_reg f_memory f_timers f_timers_process f_timers_time f_timers_isBy f_links_0 f_links_1 f_dia f_dia_meetings hP)

def FX3_pass (x2 : Int32) (f_this : mF) (f_reg : mF) (f_regAhead : mF) (f_memory : mF) (f_timers : mF) (f_timers_process : mF) (f_timers_time : mF) (f_timers_isBy : mF) (f_links_0 : mF) (f_links_1 : mF) (f_dia : mF) (f_dia_meetings : mF) (f_prg : mF) (f_prg_op : mF) (f_prg_number : mF) : Int32 × mF × mF × mF × mF × mF × mF × mF × mF × mF × mF × mF × mF :=
  let u1 := FX3_isHalted f_reg; if u1 = 0 then (let u3 := FX3_chooseWhoRuns f_reg f_memory; if u3.1 = 0 then ((0, (upd (upd f_this 7 2) 7 2), (upd (va_cpy (va_cpy f_reg f_regAhead 0 0 20) u3.2 0 0 20) 19 1), (va_cpy f_reg f_regAhead 0 0 20), f_memory, f_timers, f_timers_process, f_timers_time, f_timers_isBy, f_links_0, f_links_1, f_dia, f_dia_meetings)) else (let u6 := FX3_isRunning u3.2; if u6 = 0 then (let u8 := FX3_endWaits (upd u3.2 18 ((u3.2 18) + 1)) f_memory f_timers f_timers_process f_timers_time f_timers_isBy; (0, (upd f_this 7 2), u8.2.1, (va_cpy f_reg f_regAhead 0 0 20), u8.2.2.1, u8.2.2.2.1, u8.2.2.2.2.1, u8.2.2.2.2.2.1, u8.2.2.2.2.2.2, f_links_0, f_links_1, f_dia, f_dia_meetings)) else (let u11 := FX3_perform x2 (upd f_this 7 2) u3.2 f_memory f_timers f_timers_process f_timers_time f_timers_isBy f_links_0 f_links_1 f_dia f_dia_meetings f_prg f_prg_op f_prg_number; if u11.1 = 0 then ((0, (upd u11.2.1 7 2), (upd (va_cpy (va_cpy f_reg f_regAhead 0 0 20) u11.2.2.1 0 0 20) 19 1), (va_cpy f_reg f_regAhead 0 0 20), u11.2.2.2.1, u11.2.2.2.2.1, u11.2.2.2.2.2.1, u11.2.2.2.2.2.2.1, u11.2.2.2.2.2.2.2.1, u11.2.2.2.2.2.2.2.2.1, u11.2.2.2.2.2.2.2.2.2.1, u11.2.2.2.2.2.2.2.2.2.2.1, u11.2.2.2.2.2.2.2.2.2.2.2)) else (let u14 := FX3_endWaits (upd u11.2.2.1 18 ((u11.2.2.1 18) + 1)) u11.2.2.2.1 u11.2.2.2.2.1 u11.2.2.2.2.2.1 u11.2.2.2.2.2.2.1 u11.2.2.2.2.2.2.2.1; (0, u11.2.1, u14.2.1, (va_cpy f_reg f_regAhead 0 0 20), u14.2.2.1, u14.2.2.2.1, u14.2.2.2.2.1, u14.2.2.2.2.2.1, u14.2.2.2.2.2.2, u11.2.2.2.2.2.2.2.2.1, u11.2.2.2.2.2.2.2.2.2.1, u11.2.2.2.2.2.2.2.2.2.2.1, u11.2.2.2.2.2.2.2.2.2.2.2))))) else ((0, (upd f_this 7 2), f_reg, f_regAhead, f_memory, f_timers, f_timers_process, f_timers_time, f_timers_isBy, f_links_0, f_links_1, f_dia, f_dia_meetings))
def OX3_pass (x2 : Int32) (f_this : mF) (f_reg : mF) (f_regAhead : mF) (f_memory : mF) (f_timers : mF) (f_timers_process : mF) (f_timers_time : mF) (f_timers_isBy : mF) (f_links_0 : mF) (f_links_1 : mF) (f_dia : mF) (f_dia_meetings : mF) (f_prg : mF) (f_prg_op : mF) (f_prg_number : mF) : Prop :=
  (let u1 := FX3_isHalted f_reg; (u1 = 0 → (OX3_chooseWhoRuns f_reg f_memory ∧ (let u3 := FX3_chooseWhoRuns f_reg f_memory; (u3.1 = 0 → True) ∧ (¬ (u3.1 = 0) → ((let u6 := FX3_isRunning u3.2; (u6 = 0 → (OX3_endWaits (upd u3.2 18 ((u3.2 18) + 1)) f_memory f_timers f_timers_process f_timers_time f_timers_isBy)) ∧ (¬ (u6 = 0) → (OX3_perform x2 (upd f_this 7 2) u3.2 f_memory f_timers f_timers_process f_timers_time f_timers_isBy f_links_0 f_links_1 f_dia f_dia_meetings f_prg f_prg_op f_prg_number ∧ (let u11 := FX3_perform x2 (upd f_this 7 2) u3.2 f_memory f_timers f_timers_process f_timers_time f_timers_isBy f_links_0 f_links_1 f_dia f_dia_meetings f_prg f_prg_op f_prg_number; (u11.1 = 0 → True) ∧ (¬ (u11.1 = 0) → (OX3_endWaits (upd u11.2.2.1 18 ((u11.2.2.1 18) + 1)) u11.2.2.2.1 u11.2.2.2.2.1 u11.2.2.2.2.2.1 u11.2.2.2.2.2.2.1 u11.2.2.2.2.2.2.2.1))))))))))) ∧ (¬ (u1 = 0) → True))
set_option maxRecDepth 20000 in
theorem tX3_pass {d : Nat} {B : mB} {v : mV} {w : mX} {Q : Option Int32 → mMH → Prop} {b g pg : Nat} (hB : isMach B b g) (hd : g + 2 ≤ b) (hG : isPrg B pg) (hpg : pg + 14 ≤ g) (x2 : Int32) (f_this : mF) (f_reg : mF) (f_regAhead : mF) (f_memory : mF) (f_timers : mF) (f_timers_process : mF) (f_timers_time : mF) (f_timers_isBy : mF) (f_links_0 : mF) (f_links_1 : mF) (f_dia : mF) (f_dia_meetings : mF) (f_prg : mF) (f_prg_op : mF) (f_prg_number : mF) (hO : OX3_pass x2 f_this f_reg f_regAhead f_memory f_timers f_timers_process f_timers_time f_timers_isBy f_links_0 f_links_1 f_dia f_dia_meetings f_prg f_prg_op f_prg_number) (hQ : Q (none) (mH B (mE v [(b, (FX3_pass x2 f_this f_reg f_regAhead f_memory f_timers f_timers_process f_timers_time f_timers_isBy f_links_0 f_links_1 f_dia f_dia_meetings f_prg f_prg_op f_prg_number).2.1), (b + 1, (FX3_pass x2 f_this f_reg f_regAhead f_memory f_timers f_timers_process f_timers_time f_timers_isBy f_links_0 f_links_1 f_dia f_dia_meetings f_prg f_prg_op f_prg_number).2.2.1), (b + 2, (FX3_pass x2 f_this f_reg f_regAhead f_memory f_timers f_timers_process f_timers_time f_timers_isBy f_links_0 f_links_1 f_dia f_dia_meetings f_prg f_prg_op f_prg_number).2.2.2.1), (b + 3, (FX3_pass x2 f_this f_reg f_regAhead f_memory f_timers f_timers_process f_timers_time f_timers_isBy f_links_0 f_links_1 f_dia f_dia_meetings f_prg f_prg_op f_prg_number).2.2.2.2.1), (b + 4, (FX3_pass x2 f_this f_reg f_regAhead f_memory f_timers f_timers_process f_timers_time f_timers_isBy f_links_0 f_links_1 f_dia f_dia_meetings f_prg f_prg_op f_prg_number).2.2.2.2.2.1), (b + 4 + 1, (FX3_pass x2 f_this f_reg f_regAhead f_memory f_timers f_timers_process f_timers_time f_timers_isBy f_links_0 f_links_1 f_dia f_dia_meetings f_prg f_prg_op f_prg_number).2.2.2.2.2.2.1), (b + 4 + 2, (FX3_pass x2 f_this f_reg f_regAhead f_memory f_timers f_timers_process f_timers_time f_timers_isBy f_links_0 f_links_1 f_dia f_dia_meetings f_prg f_prg_op f_prg_number).2.2.2.2.2.2.2.1), (b + 4 + 3, (FX3_pass x2 f_this f_reg f_regAhead f_memory f_timers f_timers_process f_timers_time f_timers_isBy f_links_0 f_links_1 f_dia f_dia_meetings f_prg f_prg_op f_prg_number).2.2.2.2.2.2.2.2.1), (b + 9, (FX3_pass x2 f_this f_reg f_regAhead f_memory f_timers f_timers_process f_timers_time f_timers_isBy f_links_0 f_links_1 f_dia f_dia_meetings f_prg f_prg_op f_prg_number).2.2.2.2.2.2.2.2.2.1), (b + 10, (FX3_pass x2 f_this f_reg f_regAhead f_memory f_timers f_timers_process f_timers_time f_timers_isBy f_links_0 f_links_1 f_dia f_dia_meetings f_prg f_prg_op f_prg_number).2.2.2.2.2.2.2.2.2.2.1), (g, (FX3_pass x2 f_this f_reg f_regAhead f_memory f_timers f_timers_process f_timers_time f_timers_isBy f_links_0 f_links_1 f_dia f_dia_meetings f_prg f_prg_op f_prg_number).2.2.2.2.2.2.2.2.2.2.2.1), (g + 1, (FX3_pass x2 f_this f_reg f_regAhead f_memory f_timers f_timers_process f_timers_time f_timers_isBy f_links_0 f_links_1 f_dia f_dia_meetings f_prg f_prg_op f_prg_number).2.2.2.2.2.2.2.2.2.2.2.2), (pg, f_prg), (pg + 1, f_prg_op), (pg + 2, f_prg_number)]) w)) : CQ (d + 6) 29 [.ref b, .ref pg, .int x2] (mH B (mE v [(b, f_this), (b + 1, f_reg), (b + 2, f_regAhead), (b + 3, f_memory), (b + 4, f_timers), (b + 4 + 1, f_timers_process), (b + 4 + 2, f_timers_time), (b + 4 + 3, f_timers_isBy), (b + 9, f_links_0), (b + 10, f_links_1), (g, f_dia), (g + 1, f_dia_meetings), (pg, f_prg), (pg + 1, f_prg_op), (pg + 2, f_prg_number)]) w) Q := by
  have hn : ∀ (f_this : mF) (f_reg : mF) (f_regAhead : mF) (f_memory : mF) (f_timers : mF) (f_timers_process : mF) (f_timers_time : mF) (f_timers_isBy : mF) (f_links_0 : mF) (f_links_1 : mF) (f_dia : mF) (f_dia_meetings : mF) (f_prg : mF) (f_prg_op : mF) (f_prg_number : mF), mNd [(b, f_this), (b + 1, f_reg), (b + 2, f_regAhead), (b + 3, f_memory), (b + 4, f_timers), (b + 4 + 1, f_timers_process), (b + 4 + 2, f_timers_time), (b + 4 + 3, f_timers_isBy), (b + 9, f_links_0), (b + 10, f_links_1), (g, f_dia), (g + 1, f_dia_meetings), (pg, f_prg), (pg + 1, f_prg_op), (pg + 2, f_prg_number)] := fun _ _ _ _ _ _ _ _ _ _ _ _ _ _ _ => by
    show List.Nodup _
    simp only [List.map_cons, List.map_nil, List.nodup_cons, List.mem_cons, List.not_mem_nil, or_false, not_or, not_false_eq_true, List.nodup_nil, and_true]
    omega
  obtain ⟨P, hPQ, hP⟩ : ∃ P : Int32 × mF × mF × mF × mF × mF × mF × mF × mF × mF × mF × mF × mF → Prop, (∀ (q : Int32) (q0 : mF) (q1 : mF) (q2 : mF) (q3 : mF) (q4 : mF) (q5 : mF) (q6 : mF) (q7 : mF) (q8 : mF) (q9 : mF) (q10 : mF) (q11 : mF), P (q, q0, q1, q2, q3, q4, q5, q6, q7, q8, q9, q10, q11) → Q (none) (mH B (mE v [(b, q0), (b + 1, q1), (b + 2, q2), (b + 3, q3), (b + 4, q4), (b + 4 + 1, q5), (b + 4 + 2, q6), (b + 4 + 3, q7), (b + 9, q8), (b + 10, q9), (g, q10), (g + 1, q11), (pg, f_prg), (pg + 1, f_prg_op), (pg + 2, f_prg_number)]) w)) ∧ P (FX3_pass x2 f_this f_reg f_regAhead f_memory f_timers f_timers_process f_timers_time f_timers_isBy f_links_0 f_links_1 f_dia f_dia_meetings f_prg f_prg_op f_prg_number) := ⟨fun res => Q (none) (mH B (mE v [(b, res.2.1), (b + 1, res.2.2.1), (b + 2, res.2.2.2.1), (b + 3, res.2.2.2.2.1), (b + 4, res.2.2.2.2.2.1), (b + 4 + 1, res.2.2.2.2.2.2.1), (b + 4 + 2, res.2.2.2.2.2.2.2.1), (b + 4 + 3, res.2.2.2.2.2.2.2.2.1), (b + 9, res.2.2.2.2.2.2.2.2.2.1), (b + 10, res.2.2.2.2.2.2.2.2.2.2.1), (g, res.2.2.2.2.2.2.2.2.2.2.2.1), (g + 1, res.2.2.2.2.2.2.2.2.2.2.2.2), (pg, f_prg), (pg + 1, f_prg_op), (pg + 2, f_prg_number)]) w), fun _ _ _ _ _ _ _ _ _ _ _ _ _ h => h, hQ⟩
  refine r_begin mt_29 (by intro a ha; simp only [List.mem_cons, List.not_mem_nil, or_false] at ha; rcases ha with rfl | rfl | rfl <;> rfl) (Nat.le_of_ble_eq_true rfl) ?_
  rw [FX3_pass] at hP
  rw [OX3_pass] at hO
  show RB _ _ _ _ [some (.ref b), some (.ref pg), some (.int x2)] [] _ _
  refine r_aload rfl ?_
  refine r_int ?_
  refine r_put (env' := [(b, (upd f_this 7 2)), (b + 1, f_reg), (b + 2, f_regAhead), (b + 3, f_memory), (b + 4, f_timers), (b + 4 + 1, f_timers_process), (b + 4 + 2, f_timers_time), (b + 4 + 3, f_timers_isBy), (b + 9, f_links_0), (b + 10, f_links_1), (g, f_dia), (g + 1, f_dia_meetings), (pg, f_prg), (pg + 1, f_prg_op), (pg + 2, f_prg_number)]) 0 (hn _ _ _ _ _ _ _ _ _ _ _ _ _ _ _) rfl rfl hB.1 ?_
  refine r_aload rfl ?_
  have k20 := fun (Q' : Option Int32 → mMH → Prop) hq => tX3_isHalted (d := d + 4) (B := B) (v := mE v [(b, (upd f_this 7 2)), (b + 1, f_reg), (b + 2, f_regAhead), (b + 3, f_memory), (b + 4, f_timers), (b + 4 + 1, f_timers_process), (b + 4 + 2, f_timers_time), (b + 4 + 3, f_timers_isBy), (b + 9, f_links_0), (b + 10, f_links_1), (g, f_dia), (g + 1, f_dia_meetings), (pg, f_prg), (pg + 1, f_prg_op), (pg + 2, f_prg_number)]) (w := w) (Q := Q') hB (by omega) f_reg hq
  generalize hg_u1 : FX3_isHalted f_reg = u1 at k20 hP hO
  try dsimp only at hP hO
  refine r_callM (st := []) (o := b) (as := []) (envc := [(b + 1, f_reg)]) (envc' := [(b + 1, f_reg)]) (env' := [(b, (upd f_this 7 2)), (b + 1, f_reg), (b + 2, f_regAhead), (b + 3, f_memory), (b + 4, f_timers), (b + 4 + 1, f_timers_process), (b + 4 + 2, f_timers_time), (b + 4 + 3, f_timers_isBy), (b + 9, f_links_0), (b + 10, f_links_1), (g, f_dia), (g + 1, f_dia_meetings), (pg, f_prg), (pg + 1, f_prg_op), (pg + 2, f_prg_number)]) (rv := some u1) [false, true, false, false, false, false, false, false, false, false, false, false, false, false, false] (hn _ _ _ _ _ _ _ _ _ _ _ _ _ _ _) rfl rfl (Nat.le_of_ble_eq_true rfl) hB.1 rfl [b + 1] rfl rfl rfl k20 ?_
  show RB _ _ _ _ _ [.int u1] _ _
  refine r_if (fun c2 : u1 = 0 => ?_) (fun c2 : ¬ (u1 = 0) => ?_)
  · rw [if_pos c2] at hP
    have hO := hO.1 c2
    refine r_aload rfl ?_
    refine r_getr (q := b + 1) hB.1 hB.2.2.2.2.2.2.2.2.2.2.1 ?_
    refine r_int ?_
    refine r_aload rfl ?_
    refine r_getr (q := b + 2) hB.1 hB.2.2.2.2.2.2.2.2.2.2.2.1 ?_
    refine r_int ?_
    refine r_int ?_
    refine r_copy (env' := [(b, (upd f_this 7 2)), (b + 1, f_reg), (b + 2, (va_cpy f_reg f_regAhead 0 0 20)), (b + 3, f_memory), (b + 4, f_timers), (b + 4 + 1, f_timers_process), (b + 4 + 2, f_timers_time), (b + 4 + 3, f_timers_isBy), (b + 9, f_links_0), (b + 10, f_links_1), (g, f_dia), (g + 1, f_dia_meetings), (pg, f_prg), (pg + 1, f_prg_op), (pg + 2, f_prg_number)]) 1 2 (hn _ _ _ _ _ _ _ _ _ _ _ _ _ _ _) rfl rfl hB.2.1 hB.2.2.1 (by decide) (by decide) (by decide) (by decide) (by decide) (by decide) (by decide) (fun _ _ => rfl) (Nat.le_of_ble_eq_true rfl) rfl ?_
    refine r_aload rfl ?_
    obtain ⟨h4, hO⟩ := hO
    have k19 := fun (Q' : Option Int32 → mMH → Prop) hq => tX3_chooseWhoRuns (d := d + 2) (B := B) (v := mE v [(b, (upd f_this 7 2)), (b + 1, f_reg), (b + 2, (va_cpy f_reg f_regAhead 0 0 20)), (b + 3, f_memory), (b + 4, f_timers), (b + 4 + 1, f_timers_process), (b + 4 + 2, f_timers_time), (b + 4 + 3, f_timers_isBy), (b + 9, f_links_0), (b + 10, f_links_1), (g, f_dia), (g + 1, f_dia_meetings), (pg, f_prg), (pg + 1, f_prg_op), (pg + 2, f_prg_number)]) (w := w) (Q := Q') hB (by omega) f_reg f_memory h4 hq
    generalize hg_u3 : FX3_chooseWhoRuns f_reg f_memory = u3 at k19 hP hO
    try dsimp only at hP hO
    refine r_callM (st := []) (o := b) (as := []) (envc := [(b + 1, f_reg), (b + 3, f_memory)]) (envc' := [(b + 1, u3.2), (b + 3, f_memory)]) (env' := [(b, (upd f_this 7 2)), (b + 1, u3.2), (b + 2, (va_cpy f_reg f_regAhead 0 0 20)), (b + 3, f_memory), (b + 4, f_timers), (b + 4 + 1, f_timers_process), (b + 4 + 2, f_timers_time), (b + 4 + 3, f_timers_isBy), (b + 9, f_links_0), (b + 10, f_links_1), (g, f_dia), (g + 1, f_dia_meetings), (pg, f_prg), (pg + 1, f_prg_op), (pg + 2, f_prg_number)]) (rv := some u3.1) [false, true, false, true, false, false, false, false, false, false, false, false, false, false, false] (hn _ _ _ _ _ _ _ _ _ _ _ _ _ _ _) rfl rfl (Nat.le_of_ble_eq_true rfl) hB.1 rfl [b + 1, b + 3] rfl rfl rfl k19 ?_
    show RB _ _ _ _ _ [.int u3.1] _ _
    refine r_if (fun c5 : u3.1 = 0 => ?_) (fun c5 : ¬ (u3.1 = 0) => ?_)
    · rw [if_pos c5] at hP
      have hO := hO.1 c5
      refine r_aload rfl ?_
      refine r_getr (q := b + 2) hB.1 hB.2.2.2.2.2.2.2.2.2.2.2.1 ?_
      refine r_int ?_
      refine r_aload rfl ?_
      refine r_getr (q := b + 1) hB.1 hB.2.2.2.2.2.2.2.2.2.2.1 ?_
      refine r_int ?_
      refine r_int ?_
      refine r_copy (env' := [(b, (upd f_this 7 2)), (b + 1, (va_cpy (va_cpy f_reg f_regAhead 0 0 20) u3.2 0 0 20)), (b + 2, (va_cpy f_reg f_regAhead 0 0 20)), (b + 3, f_memory), (b + 4, f_timers), (b + 4 + 1, f_timers_process), (b + 4 + 2, f_timers_time), (b + 4 + 3, f_timers_isBy), (b + 9, f_links_0), (b + 10, f_links_1), (g, f_dia), (g + 1, f_dia_meetings), (pg, f_prg), (pg + 1, f_prg_op), (pg + 2, f_prg_number)]) 2 1 (hn _ _ _ _ _ _ _ _ _ _ _ _ _ _ _) rfl rfl hB.2.2.1 hB.2.1 (by decide) (by decide) (by decide) (by decide) (by decide) (by decide) (by decide) (fun _ _ => rfl) (Nat.le_of_ble_eq_true rfl) rfl ?_
      refine r_aload rfl ?_
      refine r_getr (q := b + 1) hB.1 hB.2.2.2.2.2.2.2.2.2.2.1 ?_
      refine r_int ?_
      refine r_int ?_
      refine r_ast (y := 1) (env' := [(b, (upd f_this 7 2)), (b + 1, (upd (va_cpy (va_cpy f_reg f_regAhead 0 0 20) u3.2 0 0 20) 19 1)), (b + 2, (va_cpy f_reg f_regAhead 0 0 20)), (b + 3, f_memory), (b + 4, f_timers), (b + 4 + 1, f_timers_process), (b + 4 + 2, f_timers_time), (b + 4 + 3, f_timers_isBy), (b + 9, f_links_0), (b + 10, f_links_1), (g, f_dia), (g + 1, f_dia_meetings), (pg, f_prg), (pg + 1, f_prg_op), (pg + 2, f_prg_number)]) 1 19 (hn _ _ _ _ _ _ _ _ _ _ _ _ _ _ _) rfl hB.2.1 (by decide) rfl (lt_in 19 20 rfl rfl) (lt_cl 19 rfl) rfl rfl ?_
      refine r_aload rfl ?_
      refine r_int ?_
      refine r_put (env' := [(b, (upd (upd f_this 7 2) 7 2)), (b + 1, (upd (va_cpy (va_cpy f_reg f_regAhead 0 0 20) u3.2 0 0 20) 19 1)), (b + 2, (va_cpy f_reg f_regAhead 0 0 20)), (b + 3, f_memory), (b + 4, f_timers), (b + 4 + 1, f_timers_process), (b + 4 + 2, f_timers_time), (b + 4 + 3, f_timers_isBy), (b + 9, f_links_0), (b + 10, f_links_1), (g, f_dia), (g + 1, f_dia_meetings), (pg, f_prg), (pg + 1, f_prg_op), (pg + 2, f_prg_number)]) 0 (hn _ _ _ _ _ _ _ _ _ _ _ _ _ _ _) rfl rfl hB.1 ?_
      exact r_retv rfl (hPQ 0 (upd (upd f_this 7 2) 7 2) (upd (va_cpy (va_cpy f_reg f_regAhead 0 0 20) u3.2 0 0 20) 19 1) (va_cpy f_reg f_regAhead 0 0 20) f_memory f_timers f_timers_process f_timers_time f_timers_isBy f_links_0 f_links_1 f_dia f_dia_meetings hP)
    · rw [if_neg c5] at hP
      have hO := hO.2 c5
      refine r_aload rfl ?_
      have k18 := fun (Q' : Option Int32 → mMH → Prop) hq => tX3_isRunning (d := d + 4) (B := B) (v := mE v [(b, (upd f_this 7 2)), (b + 1, u3.2), (b + 2, (va_cpy f_reg f_regAhead 0 0 20)), (b + 3, f_memory), (b + 4, f_timers), (b + 4 + 1, f_timers_process), (b + 4 + 2, f_timers_time), (b + 4 + 3, f_timers_isBy), (b + 9, f_links_0), (b + 10, f_links_1), (g, f_dia), (g + 1, f_dia_meetings), (pg, f_prg), (pg + 1, f_prg_op), (pg + 2, f_prg_number)]) (w := w) (Q := Q') hB (by omega) u3.2 hq
      generalize hg_u6 : FX3_isRunning u3.2 = u6 at k18 hP hO
      try dsimp only at hP hO
      refine r_callM (st := []) (o := b) (as := []) (envc := [(b + 1, u3.2)]) (envc' := [(b + 1, u3.2)]) (env' := [(b, (upd f_this 7 2)), (b + 1, u3.2), (b + 2, (va_cpy f_reg f_regAhead 0 0 20)), (b + 3, f_memory), (b + 4, f_timers), (b + 4 + 1, f_timers_process), (b + 4 + 2, f_timers_time), (b + 4 + 3, f_timers_isBy), (b + 9, f_links_0), (b + 10, f_links_1), (g, f_dia), (g + 1, f_dia_meetings), (pg, f_prg), (pg + 1, f_prg_op), (pg + 2, f_prg_number)]) (rv := some u6) [false, true, false, false, false, false, false, false, false, false, false, false, false, false, false] (hn _ _ _ _ _ _ _ _ _ _ _ _ _ _ _) rfl rfl (Nat.le_of_ble_eq_true rfl) hB.1 rfl [b + 1] rfl rfl rfl k18 ?_
      show RB _ _ _ _ _ [.int u6] _ _
      refine r_if (fun c7 : u6 = 0 => ?_) (fun c7 : ¬ (u6 = 0) => ?_)
      · rw [if_pos c7] at hP
        have hO := hO.1 c7
        refine r_aload rfl ?_
        refine r_getr (q := b + 1) hB.1 hB.2.2.2.2.2.2.2.2.2.2.1 ?_
        refine r_int ?_
        refine r_dup2 rfl rfl ?_
        refine r_ald (x := u3.2 18) 1 18 (hn _ _ _ _ _ _ _ _ _ _ _ _ _ _ _) rfl hB.2.1 (by decide) rfl (lt_in 18 20 rfl rfl) (lt_cl 18 rfl) rfl ?_
        refine r_int ?_
        refine r_iadd ?_
        refine r_ast (y := (u3.2 18) + 1) (env' := [(b, (upd f_this 7 2)), (b + 1, (upd u3.2 18 ((u3.2 18) + 1))), (b + 2, (va_cpy f_reg f_regAhead 0 0 20)), (b + 3, f_memory), (b + 4, f_timers), (b + 4 + 1, f_timers_process), (b + 4 + 2, f_timers_time), (b + 4 + 3, f_timers_isBy), (b + 9, f_links_0), (b + 10, f_links_1), (g, f_dia), (g + 1, f_dia_meetings), (pg, f_prg), (pg + 1, f_prg_op), (pg + 2, f_prg_number)]) 1 18 (hn _ _ _ _ _ _ _ _ _ _ _ _ _ _ _) rfl hB.2.1 (by decide) rfl (lt_in 18 20 rfl rfl) (lt_cl 18 rfl) rfl rfl ?_
        refine r_aload rfl ?_
        have h9 := hO
        have k10 := fun (Q' : Option Int32 → mMH → Prop) hq => tX3_endWaits (d := d + 1) (B := B) (v := mE v [(b, (upd f_this 7 2)), (b + 1, (upd u3.2 18 ((u3.2 18) + 1))), (b + 2, (va_cpy f_reg f_regAhead 0 0 20)), (b + 3, f_memory), (b + 4, f_timers), (b + 4 + 1, f_timers_process), (b + 4 + 2, f_timers_time), (b + 4 + 3, f_timers_isBy), (b + 9, f_links_0), (b + 10, f_links_1), (g, f_dia), (g + 1, f_dia_meetings), (pg, f_prg), (pg + 1, f_prg_op), (pg + 2, f_prg_number)]) (w := w) (Q := Q') hB (by omega) (upd u3.2 18 ((u3.2 18) + 1)) f_memory f_timers f_timers_process f_timers_time f_timers_isBy h9 hq
        generalize hg_u8 : FX3_endWaits (upd u3.2 18 ((u3.2 18) + 1)) f_memory f_timers f_timers_process f_timers_time f_timers_isBy = u8 at k10 hP
        try dsimp only at hP
        refine r_callM (st := []) (o := b) (as := []) (envc := [(b + 1, (upd u3.2 18 ((u3.2 18) + 1))), (b + 3, f_memory), (b + 4, f_timers), (b + 4 + 1, f_timers_process), (b + 4 + 2, f_timers_time), (b + 4 + 3, f_timers_isBy)]) (envc' := [(b + 1, u8.2.1), (b + 3, u8.2.2.1), (b + 4, u8.2.2.2.1), (b + 4 + 1, u8.2.2.2.2.1), (b + 4 + 2, u8.2.2.2.2.2.1), (b + 4 + 3, u8.2.2.2.2.2.2)]) (env' := [(b, (upd f_this 7 2)), (b + 1, u8.2.1), (b + 2, (va_cpy f_reg f_regAhead 0 0 20)), (b + 3, u8.2.2.1), (b + 4, u8.2.2.2.1), (b + 4 + 1, u8.2.2.2.2.1), (b + 4 + 2, u8.2.2.2.2.2.1), (b + 4 + 3, u8.2.2.2.2.2.2), (b + 9, f_links_0), (b + 10, f_links_1), (g, f_dia), (g + 1, f_dia_meetings), (pg, f_prg), (pg + 1, f_prg_op), (pg + 2, f_prg_number)]) (rv := none) [false, true, false, true, true, true, true, true, false, false, false, false, false, false, false] (hn _ _ _ _ _ _ _ _ _ _ _ _ _ _ _) rfl rfl (Nat.le_of_ble_eq_true rfl) hB.1 rfl [b + 1, b + 3, b + 4, b + 4 + 1, b + 4 + 2, b + 4 + 3] rfl rfl rfl k10 ?_
        show RB _ _ _ _ _ [] _ _
        exact r_retv rfl (hPQ 0 (upd f_this 7 2) u8.2.1 (va_cpy f_reg f_regAhead 0 0 20) u8.2.2.1 u8.2.2.2.1 u8.2.2.2.2.1 u8.2.2.2.2.2.1 u8.2.2.2.2.2.2 f_links_0 f_links_1 f_dia f_dia_meetings hP)
      · rw [if_neg c7] at hP
        have hO := hO.2 c7
        refine r_aload rfl ?_
        refine r_aload rfl ?_
        refine r_iload rfl ?_
        obtain ⟨h12, hO⟩ := hO
        have k17 := fun (Q' : Option Int32 → mMH → Prop) hq => tX3_perform (d := d + 0) (B := B) (v := mE v [(b, (upd f_this 7 2)), (b + 1, u3.2), (b + 2, (va_cpy f_reg f_regAhead 0 0 20)), (b + 3, f_memory), (b + 4, f_timers), (b + 4 + 1, f_timers_process), (b + 4 + 2, f_timers_time), (b + 4 + 3, f_timers_isBy), (b + 9, f_links_0), (b + 10, f_links_1), (g, f_dia), (g + 1, f_dia_meetings), (pg, f_prg), (pg + 1, f_prg_op), (pg + 2, f_prg_number)]) (w := w) (Q := Q') hB (by omega) hG (by omega) x2 (upd f_this 7 2) u3.2 f_memory f_timers f_timers_process f_timers_time f_timers_isBy f_links_0 f_links_1 f_dia f_dia_meetings f_prg f_prg_op f_prg_number h12 hq
        generalize hg_u11 : FX3_perform x2 (upd f_this 7 2) u3.2 f_memory f_timers f_timers_process f_timers_time f_timers_isBy f_links_0 f_links_1 f_dia f_dia_meetings f_prg f_prg_op f_prg_number = u11 at k17 hP hO
        try dsimp only at hP hO
        refine r_callM (st := []) (o := b) (as := [.ref pg, .int x2]) (envc := [(b, (upd f_this 7 2)), (b + 1, u3.2), (b + 3, f_memory), (b + 4, f_timers), (b + 4 + 1, f_timers_process), (b + 4 + 2, f_timers_time), (b + 4 + 3, f_timers_isBy), (b + 9, f_links_0), (b + 10, f_links_1), (g, f_dia), (g + 1, f_dia_meetings), (pg, f_prg), (pg + 1, f_prg_op), (pg + 2, f_prg_number)]) (envc' := [(b, u11.2.1), (b + 1, u11.2.2.1), (b + 3, u11.2.2.2.1), (b + 4, u11.2.2.2.2.1), (b + 4 + 1, u11.2.2.2.2.2.1), (b + 4 + 2, u11.2.2.2.2.2.2.1), (b + 4 + 3, u11.2.2.2.2.2.2.2.1), (b + 9, u11.2.2.2.2.2.2.2.2.1), (b + 10, u11.2.2.2.2.2.2.2.2.2.1), (g, u11.2.2.2.2.2.2.2.2.2.2.1), (g + 1, u11.2.2.2.2.2.2.2.2.2.2.2), (pg, f_prg), (pg + 1, f_prg_op), (pg + 2, f_prg_number)]) (env' := [(b, u11.2.1), (b + 1, u11.2.2.1), (b + 2, (va_cpy f_reg f_regAhead 0 0 20)), (b + 3, u11.2.2.2.1), (b + 4, u11.2.2.2.2.1), (b + 4 + 1, u11.2.2.2.2.2.1), (b + 4 + 2, u11.2.2.2.2.2.2.1), (b + 4 + 3, u11.2.2.2.2.2.2.2.1), (b + 9, u11.2.2.2.2.2.2.2.2.1), (b + 10, u11.2.2.2.2.2.2.2.2.2.1), (g, u11.2.2.2.2.2.2.2.2.2.2.1), (g + 1, u11.2.2.2.2.2.2.2.2.2.2.2), (pg, f_prg), (pg + 1, f_prg_op), (pg + 2, f_prg_number)]) (rv := some u11.1) [true, true, false, true, true, true, true, true, true, true, true, true, true, true, true] (hn _ _ _ _ _ _ _ _ _ _ _ _ _ _ _) rfl rfl (Nat.le_of_ble_eq_true rfl) hB.1 rfl [b, b + 1, b + 3, b + 4, b + 4 + 1, b + 4 + 2, b + 4 + 3, b + 9, b + 10, g, g + 1, pg, pg + 1, pg + 2] rfl rfl rfl k17 ?_
        show RB _ _ _ _ _ [.int u11.1] _ _
        refine r_if1 (fun c13 : u11.1 = 0 => ?_) (fun c13 : ¬ (u11.1 = 0) => ?_)
        · rw [if_pos c13] at hP
          have hO := hO.1 c13
          refine r_fall ?_
          refine r_aload rfl ?_
          refine r_getr (q := b + 2) hB.1 hB.2.2.2.2.2.2.2.2.2.2.2.1 ?_
          refine r_int ?_
          refine r_aload rfl ?_
          refine r_getr (q := b + 1) hB.1 hB.2.2.2.2.2.2.2.2.2.2.1 ?_
          refine r_int ?_
          refine r_int ?_
          refine r_copy (env' := [(b, u11.2.1), (b + 1, (va_cpy (va_cpy f_reg f_regAhead 0 0 20) u11.2.2.1 0 0 20)), (b + 2, (va_cpy f_reg f_regAhead 0 0 20)), (b + 3, u11.2.2.2.1), (b + 4, u11.2.2.2.2.1), (b + 4 + 1, u11.2.2.2.2.2.1), (b + 4 + 2, u11.2.2.2.2.2.2.1), (b + 4 + 3, u11.2.2.2.2.2.2.2.1), (b + 9, u11.2.2.2.2.2.2.2.2.1), (b + 10, u11.2.2.2.2.2.2.2.2.2.1), (g, u11.2.2.2.2.2.2.2.2.2.2.1), (g + 1, u11.2.2.2.2.2.2.2.2.2.2.2), (pg, f_prg), (pg + 1, f_prg_op), (pg + 2, f_prg_number)]) 2 1 (hn _ _ _ _ _ _ _ _ _ _ _ _ _ _ _) rfl rfl hB.2.2.1 hB.2.1 (by decide) (by decide) (by decide) (by decide) (by decide) (by decide) (by decide) (fun _ _ => rfl) (Nat.le_of_ble_eq_true rfl) rfl ?_
          refine r_aload rfl ?_
          refine r_getr (q := b + 1) hB.1 hB.2.2.2.2.2.2.2.2.2.2.1 ?_
          refine r_int ?_
          refine r_int ?_
          refine r_ast (y := 1) (env' := [(b, u11.2.1), (b + 1, (upd (va_cpy (va_cpy f_reg f_regAhead 0 0 20) u11.2.2.1 0 0 20) 19 1)), (b + 2, (va_cpy f_reg f_regAhead 0 0 20)), (b + 3, u11.2.2.2.1), (b + 4, u11.2.2.2.2.1), (b + 4 + 1, u11.2.2.2.2.2.1), (b + 4 + 2, u11.2.2.2.2.2.2.1), (b + 4 + 3, u11.2.2.2.2.2.2.2.1), (b + 9, u11.2.2.2.2.2.2.2.2.1), (b + 10, u11.2.2.2.2.2.2.2.2.2.1), (g, u11.2.2.2.2.2.2.2.2.2.2.1), (g + 1, u11.2.2.2.2.2.2.2.2.2.2.2), (pg, f_prg), (pg + 1, f_prg_op), (pg + 2, f_prg_number)]) 1 19 (hn _ _ _ _ _ _ _ _ _ _ _ _ _ _ _) rfl hB.2.1 (by decide) rfl (lt_in 19 20 rfl rfl) (lt_cl 19 rfl) rfl rfl ?_
          refine r_aload rfl ?_
          refine r_int ?_
          refine r_put (env' := [(b, (upd u11.2.1 7 2)), (b + 1, (upd (va_cpy (va_cpy f_reg f_regAhead 0 0 20) u11.2.2.1 0 0 20) 19 1)), (b + 2, (va_cpy f_reg f_regAhead 0 0 20)), (b + 3, u11.2.2.2.1), (b + 4, u11.2.2.2.2.1), (b + 4 + 1, u11.2.2.2.2.2.1), (b + 4 + 2, u11.2.2.2.2.2.2.1), (b + 4 + 3, u11.2.2.2.2.2.2.2.1), (b + 9, u11.2.2.2.2.2.2.2.2.1), (b + 10, u11.2.2.2.2.2.2.2.2.2.1), (g, u11.2.2.2.2.2.2.2.2.2.2.1), (g + 1, u11.2.2.2.2.2.2.2.2.2.2.2), (pg, f_prg), (pg + 1, f_prg_op), (pg + 2, f_prg_number)]) 0 (hn _ _ _ _ _ _ _ _ _ _ _ _ _ _ _) rfl rfl hB.1 ?_
          exact r_retv rfl (hPQ 0 (upd u11.2.1 7 2) (upd (va_cpy (va_cpy f_reg f_regAhead 0 0 20) u11.2.2.1 0 0 20) 19 1) (va_cpy f_reg f_regAhead 0 0 20) u11.2.2.2.1 u11.2.2.2.2.1 u11.2.2.2.2.2.1 u11.2.2.2.2.2.2.1 u11.2.2.2.2.2.2.2.1 u11.2.2.2.2.2.2.2.2.1 u11.2.2.2.2.2.2.2.2.2.1 u11.2.2.2.2.2.2.2.2.2.2.1 u11.2.2.2.2.2.2.2.2.2.2.2 hP)
        · rw [if_neg c13] at hP
          have hO := hO.2 c13
          refine r_aload rfl ?_
          refine r_getr (q := b + 1) hB.1 hB.2.2.2.2.2.2.2.2.2.2.1 ?_
          refine r_int ?_
          refine r_dup2 rfl rfl ?_
          refine r_ald (x := u11.2.2.1 18) 1 18 (hn _ _ _ _ _ _ _ _ _ _ _ _ _ _ _) rfl hB.2.1 (by decide) rfl (lt_in 18 20 rfl rfl) (lt_cl 18 rfl) rfl ?_
          refine r_int ?_
          refine r_iadd ?_
          refine r_ast (y := (u11.2.2.1 18) + 1) (env' := [(b, u11.2.1), (b + 1, (upd u11.2.2.1 18 ((u11.2.2.1 18) + 1))), (b + 2, (va_cpy f_reg f_regAhead 0 0 20)), (b + 3, u11.2.2.2.1), (b + 4, u11.2.2.2.2.1), (b + 4 + 1, u11.2.2.2.2.2.1), (b + 4 + 2, u11.2.2.2.2.2.2.1), (b + 4 + 3, u11.2.2.2.2.2.2.2.1), (b + 9, u11.2.2.2.2.2.2.2.2.1), (b + 10, u11.2.2.2.2.2.2.2.2.2.1), (g, u11.2.2.2.2.2.2.2.2.2.2.1), (g + 1, u11.2.2.2.2.2.2.2.2.2.2.2), (pg, f_prg), (pg + 1, f_prg_op), (pg + 2, f_prg_number)]) 1 18 (hn _ _ _ _ _ _ _ _ _ _ _ _ _ _ _) rfl hB.2.1 (by decide) rfl (lt_in 18 20 rfl rfl) (lt_cl 18 rfl) rfl rfl ?_
          refine r_aload rfl ?_
          have h15 := hO
          have k16 := fun (Q' : Option Int32 → mMH → Prop) hq => tX3_endWaits (d := d + 1) (B := B) (v := mE v [(b, u11.2.1), (b + 1, (upd u11.2.2.1 18 ((u11.2.2.1 18) + 1))), (b + 2, (va_cpy f_reg f_regAhead 0 0 20)), (b + 3, u11.2.2.2.1), (b + 4, u11.2.2.2.2.1), (b + 4 + 1, u11.2.2.2.2.2.1), (b + 4 + 2, u11.2.2.2.2.2.2.1), (b + 4 + 3, u11.2.2.2.2.2.2.2.1), (b + 9, u11.2.2.2.2.2.2.2.2.1), (b + 10, u11.2.2.2.2.2.2.2.2.2.1), (g, u11.2.2.2.2.2.2.2.2.2.2.1), (g + 1, u11.2.2.2.2.2.2.2.2.2.2.2), (pg, f_prg), (pg + 1, f_prg_op), (pg + 2, f_prg_number)]) (w := w) (Q := Q') hB (by omega) (upd u11.2.2.1 18 ((u11.2.2.1 18) + 1)) u11.2.2.2.1 u11.2.2.2.2.1 u11.2.2.2.2.2.1 u11.2.2.2.2.2.2.1 u11.2.2.2.2.2.2.2.1 h15 hq
          generalize hg_u14 : FX3_endWaits (upd u11.2.2.1 18 ((u11.2.2.1 18) + 1)) u11.2.2.2.1 u11.2.2.2.2.1 u11.2.2.2.2.2.1 u11.2.2.2.2.2.2.1 u11.2.2.2.2.2.2.2.1 = u14 at k16 hP
          try dsimp only at hP
          refine r_callM (st := []) (o := b) (as := []) (envc := [(b + 1, (upd u11.2.2.1 18 ((u11.2.2.1 18) + 1))), (b + 3, u11.2.2.2.1), (b + 4, u11.2.2.2.2.1), (b + 4 + 1, u11.2.2.2.2.2.1), (b + 4 + 2, u11.2.2.2.2.2.2.1), (b + 4 + 3, u11.2.2.2.2.2.2.2.1)]) (envc' := [(b + 1, u14.2.1), (b + 3, u14.2.2.1), (b + 4, u14.2.2.2.1), (b + 4 + 1, u14.2.2.2.2.1), (b + 4 + 2, u14.2.2.2.2.2.1), (b + 4 + 3, u14.2.2.2.2.2.2)]) (env' := [(b, u11.2.1), (b + 1, u14.2.1), (b + 2, (va_cpy f_reg f_regAhead 0 0 20)), (b + 3, u14.2.2.1), (b + 4, u14.2.2.2.1), (b + 4 + 1, u14.2.2.2.2.1), (b + 4 + 2, u14.2.2.2.2.2.1), (b + 4 + 3, u14.2.2.2.2.2.2), (b + 9, u11.2.2.2.2.2.2.2.2.1), (b + 10, u11.2.2.2.2.2.2.2.2.2.1), (g, u11.2.2.2.2.2.2.2.2.2.2.1), (g + 1, u11.2.2.2.2.2.2.2.2.2.2.2), (pg, f_prg), (pg + 1, f_prg_op), (pg + 2, f_prg_number)]) (rv := none) [false, true, false, true, true, true, true, true, false, false, false, false, false, false, false] (hn _ _ _ _ _ _ _ _ _ _ _ _ _ _ _) rfl rfl (Nat.le_of_ble_eq_true rfl) hB.1 rfl [b + 1, b + 3, b + 4, b + 4 + 1, b + 4 + 2, b + 4 + 3] rfl rfl rfl k16 ?_
          show RB _ _ _ _ _ [] _ _
          exact r_retv rfl (hPQ 0 u11.2.1 u14.2.1 (va_cpy f_reg f_regAhead 0 0 20) u14.2.2.1 u14.2.2.2.1 u14.2.2.2.2.1 u14.2.2.2.2.2.1 u14.2.2.2.2.2.2 u11.2.2.2.2.2.2.2.2.1 u11.2.2.2.2.2.2.2.2.2.1 u11.2.2.2.2.2.2.2.2.2.2.1 u11.2.2.2.2.2.2.2.2.2.2.2 hP)
  · rw [if_neg c2] at hP
    have hO := hO.2 c2
    exact r_retv rfl (hPQ 0 (upd f_this 7 2) f_reg f_regAhead f_memory f_timers f_timers_process f_timers_time f_timers_isBy f_links_0 f_links_1 f_dia f_dia_meetings hP)

def FX3_fillBuffer (x2 : Int32) (f_reg : mF) (f_memory : mF) (f_timers : mF) (f_timers_process : mF) (f_timers_time : mF) (f_timers_isBy : mF) (f_lnk : mF) : Int32 × mF × mF × mF × mF × mF × mF × mF :=
  if (f_lnk 9) = (-1) then ((0, f_reg, f_memory, f_timers, f_timers_process, f_timers_time, f_timers_isBy, (upd (upd (upd f_lnk 8 x2) 7 1) 9 (-1)))) else (let u2 := FX3_alert (f_lnk 9) f_reg f_memory f_timers f_timers_process f_timers_time f_timers_isBy; (0, u2.2.1, u2.2.2.1, u2.2.2.2.1, u2.2.2.2.2.1, u2.2.2.2.2.2.1, u2.2.2.2.2.2.2, (upd (upd (upd f_lnk 8 x2) 7 1) 9 (-1))))
def OX3_fillBuffer (x2 : Int32) (f_reg : mF) (f_memory : mF) (f_timers : mF) (f_timers_process : mF) (f_timers_time : mF) (f_timers_isBy : mF) (f_lnk : mF) : Prop :=
  ((f_lnk 9) = (-1) → True) ∧ (¬ ((f_lnk 9) = (-1)) → (OX3_alert (f_lnk 9) f_reg f_memory f_timers f_timers_process f_timers_time f_timers_isBy))
set_option maxRecDepth 20000 in
theorem tX3_fillBuffer {d : Nat} {B : mB} {v : mV} {w : mX} {Q : Option Int32 → mMH → Prop} {b g a : Nat} (hB : isMach B b g) (hd : g + 2 ≤ b) (hL : isLnk B a) (ha : a = b + 9 ∨ a = b + 10) (x2 : Int32) (f_reg : mF) (f_memory : mF) (f_timers : mF) (f_timers_process : mF) (f_timers_time : mF) (f_timers_isBy : mF) (f_lnk : mF) (hO : OX3_fillBuffer x2 f_reg f_memory f_timers f_timers_process f_timers_time f_timers_isBy f_lnk) (hQ : Q (none) (mH B (mE v [(b + 1, (FX3_fillBuffer x2 f_reg f_memory f_timers f_timers_process f_timers_time f_timers_isBy f_lnk).2.1), (b + 3, (FX3_fillBuffer x2 f_reg f_memory f_timers f_timers_process f_timers_time f_timers_isBy f_lnk).2.2.1), (b + 4, (FX3_fillBuffer x2 f_reg f_memory f_timers f_timers_process f_timers_time f_timers_isBy f_lnk).2.2.2.1), (b + 4 + 1, (FX3_fillBuffer x2 f_reg f_memory f_timers f_timers_process f_timers_time f_timers_isBy f_lnk).2.2.2.2.1), (b + 4 + 2, (FX3_fillBuffer x2 f_reg f_memory f_timers f_timers_process f_timers_time f_timers_isBy f_lnk).2.2.2.2.2.1), (b + 4 + 3, (FX3_fillBuffer x2 f_reg f_memory f_timers f_timers_process f_timers_time f_timers_isBy f_lnk).2.2.2.2.2.2.1), (a, (FX3_fillBuffer x2 f_reg f_memory f_timers f_timers_process f_timers_time f_timers_isBy f_lnk).2.2.2.2.2.2.2)]) w)) : CQ (d + 4) 66 [.ref b, .ref a, .int x2] (mH B (mE v [(b + 1, f_reg), (b + 3, f_memory), (b + 4, f_timers), (b + 4 + 1, f_timers_process), (b + 4 + 2, f_timers_time), (b + 4 + 3, f_timers_isBy), (a, f_lnk)]) w) Q := by
  have hn : ∀ (f_reg : mF) (f_memory : mF) (f_timers : mF) (f_timers_process : mF) (f_timers_time : mF) (f_timers_isBy : mF) (f_lnk : mF), mNd [(b + 1, f_reg), (b + 3, f_memory), (b + 4, f_timers), (b + 4 + 1, f_timers_process), (b + 4 + 2, f_timers_time), (b + 4 + 3, f_timers_isBy), (a, f_lnk)] := fun _ _ _ _ _ _ _ => by
    show List.Nodup _
    simp only [List.map_cons, List.map_nil, List.nodup_cons, List.mem_cons, List.not_mem_nil, or_false, not_or, not_false_eq_true, List.nodup_nil, and_true]
    omega
  obtain ⟨P, hPQ, hP⟩ : ∃ P : Int32 × mF × mF × mF × mF × mF × mF × mF → Prop, (∀ (q : Int32) (q0 : mF) (q1 : mF) (q2 : mF) (q3 : mF) (q4 : mF) (q5 : mF) (q6 : mF), P (q, q0, q1, q2, q3, q4, q5, q6) → Q (none) (mH B (mE v [(b + 1, q0), (b + 3, q1), (b + 4, q2), (b + 4 + 1, q3), (b + 4 + 2, q4), (b + 4 + 3, q5), (a, q6)]) w)) ∧ P (FX3_fillBuffer x2 f_reg f_memory f_timers f_timers_process f_timers_time f_timers_isBy f_lnk) := ⟨fun res => Q (none) (mH B (mE v [(b + 1, res.2.1), (b + 3, res.2.2.1), (b + 4, res.2.2.2.1), (b + 4 + 1, res.2.2.2.2.1), (b + 4 + 2, res.2.2.2.2.2.1), (b + 4 + 3, res.2.2.2.2.2.2.1), (a, res.2.2.2.2.2.2.2)]) w), fun _ _ _ _ _ _ _ _ h => h, hQ⟩
  refine r_begin mt_66 (by intro a ha; simp only [List.mem_cons, List.not_mem_nil, or_false] at ha; rcases ha with rfl | rfl | rfl <;> rfl) (Nat.le_of_ble_eq_true rfl) ?_
  rw [FX3_fillBuffer] at hP
  rw [OX3_fillBuffer] at hO
  show RB _ _ _ _ [some (.ref b), some (.ref a), some (.int x2), none] [] _ _
  refine r_aload rfl ?_
  refine r_iload rfl ?_
  refine r_put (env' := [(b + 1, f_reg), (b + 3, f_memory), (b + 4, f_timers), (b + 4 + 1, f_timers_process), (b + 4 + 2, f_timers_time), (b + 4 + 3, f_timers_isBy), (a, (upd f_lnk 8 x2))]) 6 (hn _ _ _ _ _ _ _) rfl rfl hL ?_
  refine r_aload rfl ?_
  refine r_int ?_
  refine r_putz (env' := [(b + 1, f_reg), (b + 3, f_memory), (b + 4, f_timers), (b + 4 + 1, f_timers_process), (b + 4 + 2, f_timers_time), (b + 4 + 3, f_timers_isBy), (a, (upd (upd f_lnk 8 x2) 7 1))]) 6 (hn _ _ _ _ _ _ _) rfl rfl hL (by decide) ?_
  refine r_aload rfl ?_
  refine r_get (x := f_lnk 9) 6 (hn _ _ _ _ _ _ _) rfl hL (by decide) (Eq.trans (pk_un (nebq rfl)) (pk_un (nebq rfl))) ?_
  refine r_istore (L' := [some (.ref b), some (.ref a), some (.int x2), some (.int (f_lnk 9))]) rfl rfl ?_
  refine r_aload rfl ?_
  refine r_int ?_
  refine r_put (env' := [(b + 1, f_reg), (b + 3, f_memory), (b + 4, f_timers), (b + 4 + 1, f_timers_process), (b + 4 + 2, f_timers_time), (b + 4 + 3, f_timers_isBy), (a, (upd (upd (upd f_lnk 8 x2) 7 1) 9 (-1)))]) 6 (hn _ _ _ _ _ _ _) rfl rfl hL ?_
  refine r_iload rfl ?_
  refine r_int ?_
  refine r_icmp (fun c1 : (f_lnk 9) = (-1) => ?_) (fun c1 : ¬ ((f_lnk 9) = (-1)) => ?_)
  · rw [if_pos c1] at hP
    have hO := hO.1 c1
    exact r_retv rfl (hPQ 0 f_reg f_memory f_timers f_timers_process f_timers_time f_timers_isBy (upd (upd (upd f_lnk 8 x2) 7 1) 9 (-1)) hP)
  · rw [if_neg c1] at hP
    have hO := hO.2 c1
    refine r_aload rfl ?_
    refine r_iload rfl ?_
    have h3 := hO
    have k4 := fun (Q' : Option Int32 → mMH → Prop) hq => tX3_alert (d := d + 0) (B := B) (v := mE v [(b + 1, f_reg), (b + 3, f_memory), (b + 4, f_timers), (b + 4 + 1, f_timers_process), (b + 4 + 2, f_timers_time), (b + 4 + 3, f_timers_isBy), (a, (upd (upd (upd f_lnk 8 x2) 7 1) 9 (-1)))]) (w := w) (Q := Q') hB (by omega) (f_lnk 9) f_reg f_memory f_timers f_timers_process f_timers_time f_timers_isBy h3 hq
    generalize hg_u2 : FX3_alert (f_lnk 9) f_reg f_memory f_timers f_timers_process f_timers_time f_timers_isBy = u2 at k4 hP
    try dsimp only at hP
    refine r_callV (st := []) (o := b) (as := [.int (f_lnk 9)]) (envc := [(b + 1, f_reg), (b + 3, f_memory), (b + 4, f_timers), (b + 4 + 1, f_timers_process), (b + 4 + 2, f_timers_time), (b + 4 + 3, f_timers_isBy)]) (envc' := [(b + 1, u2.2.1), (b + 3, u2.2.2.1), (b + 4, u2.2.2.2.1), (b + 4 + 1, u2.2.2.2.2.1), (b + 4 + 2, u2.2.2.2.2.2.1), (b + 4 + 3, u2.2.2.2.2.2.2)]) (env' := [(b + 1, u2.2.1), (b + 3, u2.2.2.1), (b + 4, u2.2.2.2.1), (b + 4 + 1, u2.2.2.2.2.1), (b + 4 + 2, u2.2.2.2.2.2.1), (b + 4 + 3, u2.2.2.2.2.2.2), (a, (upd (upd (upd f_lnk 8 x2) 7 1) 9 (-1)))]) (rv := none) [0, 1, 2, 3, 4, 5] (hn _ _ _ _ _ _ _) rfl rfl (Nat.le_of_ble_eq_true rfl) hB.1 rfl rfl rfl k4 ?_
    show RB _ _ _ _ _ [] _ _
    refine r_fall ?_
    exact r_retv rfl (hPQ 0 u2.2.1 u2.2.2.1 u2.2.2.2.1 u2.2.2.2.2.1 u2.2.2.2.2.2.1 u2.2.2.2.2.2.2 (upd (upd (upd f_lnk 8 x2) 7 1) 9 (-1)) hP)

def FX3_emptyBuffer (f_reg : mF) (f_memory : mF) (f_lnk : mF) : Int32 × mF × mF × mF :=
  let g2 := upd f_memory ((f_lnk 5 : Int32).toNatClampNeg) (f_lnk 8); if ((f_lnk 6) - 1) = 0 then (let u4 := FX3_schedule (f_lnk 4) f_reg g2; let u6 := FX2_endReceiving (upd (upd (upd f_lnk 7 0) 5 ((f_lnk 5) + 1)) 6 ((f_lnk 6) - 1)); (0, u4.2.1, u4.2.2, u6.2)) else ((0, f_reg, g2, (upd (upd (upd f_lnk 7 0) 5 ((f_lnk 5) + 1)) 6 ((f_lnk 6) - 1))))
def OX3_emptyBuffer (f_reg : mF) (f_memory : mF) (f_lnk : mF) : Prop :=
  vp_in (f_lnk 5) 96 ∧ (let g2 := upd f_memory ((f_lnk 5 : Int32).toNatClampNeg) (f_lnk 8); (((f_lnk 6) - 1) = 0 → (OX3_schedule (f_lnk 4) f_reg g2)) ∧ (¬ (((f_lnk 6) - 1) = 0) → True))
set_option maxRecDepth 20000 in
theorem tX3_emptyBuffer {d : Nat} {B : mB} {v : mV} {w : mX} {Q : Option Int32 → mMH → Prop} {b g a : Nat} (hB : isMach B b g) (hd : g + 2 ≤ b) (hL : isLnk B a) (ha : a = b + 9 ∨ a = b + 10) (f_reg : mF) (f_memory : mF) (f_lnk : mF) (hO : OX3_emptyBuffer f_reg f_memory f_lnk) (hQ : Q (none) (mH B (mE v [(b + 1, (FX3_emptyBuffer f_reg f_memory f_lnk).2.1), (b + 3, (FX3_emptyBuffer f_reg f_memory f_lnk).2.2.1), (a, (FX3_emptyBuffer f_reg f_memory f_lnk).2.2.2)]) w)) : CQ (d + 3) 67 [.ref b, .ref a] (mH B (mE v [(b + 1, f_reg), (b + 3, f_memory), (a, f_lnk)]) w) Q := by
  have hn : ∀ (f_reg : mF) (f_memory : mF) (f_lnk : mF), mNd [(b + 1, f_reg), (b + 3, f_memory), (a, f_lnk)] := fun _ _ _ => by
    show List.Nodup _
    simp only [List.map_cons, List.map_nil, List.nodup_cons, List.mem_cons, List.not_mem_nil, or_false, not_or, not_false_eq_true, List.nodup_nil, and_true]
    omega
  obtain ⟨P, hPQ, hP⟩ : ∃ P : Int32 × mF × mF × mF → Prop, (∀ (q : Int32) (q0 : mF) (q1 : mF) (q2 : mF), P (q, q0, q1, q2) → Q (none) (mH B (mE v [(b + 1, q0), (b + 3, q1), (a, q2)]) w)) ∧ P (FX3_emptyBuffer f_reg f_memory f_lnk) := ⟨fun res => Q (none) (mH B (mE v [(b + 1, res.2.1), (b + 3, res.2.2.1), (a, res.2.2.2)]) w), fun _ _ _ _ h => h, hQ⟩
  refine r_begin mt_67 (by intro a ha; simp only [List.mem_cons, List.not_mem_nil, or_false] at ha; rcases ha with rfl | rfl <;> rfl) (Nat.le_of_ble_eq_true rfl) ?_
  rw [FX3_emptyBuffer] at hP
  rw [OX3_emptyBuffer] at hO
  show RB _ _ _ _ [some (.ref b), some (.ref a)] [] _ _
  refine r_aload rfl ?_
  refine r_getr (q := b + 3) hB.1 hB.2.2.2.2.2.2.2.2.2.2.2.2.1 ?_
  refine r_aload rfl ?_
  refine r_get (x := f_lnk 5) 2 (hn _ _ _) rfl hL (by decide) rfl ?_
  refine r_aload rfl ?_
  refine r_get (x := f_lnk 8) 2 (hn _ _ _) rfl hL (by decide) rfl ?_
  obtain ⟨h1, hO⟩ := hO
  refine r_ast (y := f_lnk 8) (env' := [(b + 1, f_reg), (b + 3, (upd f_memory ((f_lnk 5 : Int32).toNatClampNeg) (f_lnk 8))), (a, f_lnk)]) 1 ((f_lnk 5 : Int32).toNatClampNeg) (hn _ _ _) rfl hB.2.2.2.1 (by decide) rfl h1 rfl rfl rfl ?_
  generalize hg_g2 : upd f_memory ((f_lnk 5 : Int32).toNatClampNeg) (f_lnk 8) = g2 at hP hO ⊢
  try dsimp only at hP hO
  refine r_aload rfl ?_
  refine r_int ?_
  refine r_putz (env' := [(b + 1, f_reg), (b + 3, g2), (a, (upd f_lnk 7 0))]) 2 (hn _ _ _) rfl rfl hL (by decide) ?_
  refine r_aload rfl ?_
  refine r_dup rfl ?_
  refine r_get (x := f_lnk 5) 2 (hn _ _ _) rfl hL (by decide) (pk_un (nebq rfl)) ?_
  refine r_int ?_
  refine r_iadd ?_
  refine r_put (env' := [(b + 1, f_reg), (b + 3, g2), (a, (upd (upd f_lnk 7 0) 5 ((f_lnk 5) + 1)))]) 2 (hn _ _ _) rfl rfl hL ?_
  refine r_aload rfl ?_
  refine r_dup rfl ?_
  refine r_get (x := f_lnk 6) 2 (hn _ _ _) rfl hL (by decide) (Eq.trans (pk_un (nebq rfl)) (pk_un (nebq rfl))) ?_
  refine r_int ?_
  refine r_isub ?_
  refine r_put (env' := [(b + 1, f_reg), (b + 3, g2), (a, (upd (upd (upd f_lnk 7 0) 5 ((f_lnk 5) + 1)) 6 ((f_lnk 6) - 1)))]) 2 (hn _ _ _) rfl rfl hL ?_
  refine r_aload rfl ?_
  refine r_get (x := ((f_lnk 6) - 1)) 2 (hn _ _ _) rfl hL (by decide) pk_us ?_
  refine r_if1 (fun c3 : ((f_lnk 6) - 1) = 0 => ?_) (fun c3 : ¬ (((f_lnk 6) - 1) = 0) => ?_)
  · rw [if_pos c3] at hP
    have hO := hO.1 c3
    refine r_aload rfl ?_
    refine r_aload rfl ?_
    refine r_get (x := f_lnk 4) 2 (hn _ _ _) rfl hL (by decide) (Eq.trans (pk_un (nebq rfl)) (Eq.trans (pk_un (nebq rfl)) (pk_un (nebq rfl)))) ?_
    have h5 := hO
    have k8 := fun (Q' : Option Int32 → mMH → Prop) hq => tX3_schedule (d := d + 0) (B := B) (v := mE v [(b + 1, f_reg), (b + 3, g2), (a, (upd (upd (upd f_lnk 7 0) 5 ((f_lnk 5) + 1)) 6 ((f_lnk 6) - 1)))]) (w := w) (Q := Q') hB (by omega) (f_lnk 4) f_reg g2 h5 hq
    generalize hg_u4 : FX3_schedule (f_lnk 4) f_reg g2 = u4 at k8 hP
    try dsimp only at hP
    refine r_callV (st := []) (o := b) (as := [.int (f_lnk 4)]) (envc := [(b + 1, f_reg), (b + 3, g2)]) (envc' := [(b + 1, u4.2.1), (b + 3, u4.2.2)]) (env' := [(b + 1, u4.2.1), (b + 3, u4.2.2), (a, (upd (upd (upd f_lnk 7 0) 5 ((f_lnk 5) + 1)) 6 ((f_lnk 6) - 1)))]) (rv := none) [0, 1] (hn _ _ _) rfl rfl (Nat.le_of_ble_eq_true rfl) hB.1 rfl rfl rfl k8 ?_
    show RB _ _ _ _ _ [] _ _
    refine r_aload rfl ?_
    have k7 := fun (Q' : Option Int32 → mMH → Prop) hq => tX2_endReceiving (d := d + 0) (B := B) (v := mE v [(b + 1, u4.2.1), (b + 3, u4.2.2), (a, (upd (upd (upd f_lnk 7 0) 5 ((f_lnk 5) + 1)) 6 ((f_lnk 6) - 1)))]) (w := w) (Q := Q') hL (upd (upd (upd f_lnk 7 0) 5 ((f_lnk 5) + 1)) 6 ((f_lnk 6) - 1)) hq
    generalize hg_u6 : FX2_endReceiving (upd (upd (upd f_lnk 7 0) 5 ((f_lnk 5) + 1)) 6 ((f_lnk 6) - 1)) = u6 at k7 hP
    try dsimp only at hP
    refine r_callV (st := []) (o := a) (as := []) (envc := [(a, (upd (upd (upd f_lnk 7 0) 5 ((f_lnk 5) + 1)) 6 ((f_lnk 6) - 1)))]) (envc' := [(a, u6.2)]) (env' := [(b + 1, u4.2.1), (b + 3, u4.2.2), (a, u6.2)]) (rv := none) [2] (hn _ _ _) rfl rfl (Nat.le_of_ble_eq_true rfl) hL rfl rfl rfl k7 ?_
    show RB _ _ _ _ _ [] _ _
    refine r_fall ?_
    exact r_retv rfl (hPQ 0 u4.2.1 u4.2.2 u6.2 hP)
  · rw [if_neg c3] at hP
    have hO := hO.2 c3
    exact r_retv rfl (hPQ 0 f_reg g2 (upd (upd (upd f_lnk 7 0) 5 ((f_lnk 5) + 1)) 6 ((f_lnk 6) - 1)) hP)
