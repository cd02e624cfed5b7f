/-! GENERATED (wip/gen/g14.py): the class reads a text -/
def FX5_isLetter (x0 : Int32) : Int32 :=
  if x0 < 97 then (0) else (if 122 < x0 then (0) else (1))
set_option maxRecDepth 20000 in
theorem tX5_isLetter {d : Nat} {B : mB} {v : mV} {w : mX} {Q : Option Int32 → mMH → Prop} (x0 : Int32) (hQ : Q (some (FX5_isLetter x0)) (mH B (mE v []) w)) : CQ (d + 1) 85 [.int x0] (mH B (mE v []) w) Q := by
  obtain ⟨P, hPQ, hP⟩ : ∃ P : Int32 → Prop, (∀ (q : Int32), P q → Q (some q) (mH B (mE v []) w)) ∧ P (FX5_isLetter x0) := ⟨fun res => Q (some res) (mH B (mE v []) w), fun _ h => h, hQ⟩
  refine r_begin mt_85 (by intro a ha; simp only [List.mem_cons, List.not_mem_nil, or_false] at ha; rcases ha with rfl <;> rfl) (Nat.le_of_ble_eq_true rfl) ?_
  rw [FX5_isLetter] at hP
  show RB _ _ _ _ [some (.int x0)] [] _ _
  refine r_iload rfl ?_
  refine r_int ?_
  refine r_icmp (fun c1 : x0 < 97 => ?_) (fun c1 : ¬ (x0 < 97) => ?_)
  · rw [if_pos c1] at hP
    refine r_int ?_
    refine r_fall ?_
    exact r_ret rfl rfl (hPQ 0 hP)
  · rw [if_neg c1] at hP
    refine r_iload rfl ?_
    refine r_int ?_
    refine r_icmp (fun c2 : 122 < x0 => ?_) (fun c2 : ¬ (122 < x0) => ?_)
    · rw [if_pos c2] at hP
      refine r_int ?_
      refine r_fall ?_
      exact r_ret rfl rfl (hPQ 0 hP)
    · rw [if_neg c2] at hP
      refine r_int ?_
      refine r_goto ?_
      exact r_ret rfl rfl (hPQ 1 hP)

def FX5_isDigit (x0 : Int32) : Int32 :=
  if x0 < 48 then (0) else (if 57 < x0 then (0) else (1))
set_option maxRecDepth 20000 in
theorem tX5_isDigit {d : Nat} {B : mB} {v : mV} {w : mX} {Q : Option Int32 → mMH → Prop} (x0 : Int32) (hQ : Q (some (FX5_isDigit x0)) (mH B (mE v []) w)) : CQ (d + 1) 86 [.int x0] (mH B (mE v []) w) Q := by
  obtain ⟨P, hPQ, hP⟩ : ∃ P : Int32 → Prop, (∀ (q : Int32), P q → Q (some q) (mH B (mE v []) w)) ∧ P (FX5_isDigit x0) := ⟨fun res => Q (some res) (mH B (mE v []) w), fun _ h => h, hQ⟩
  refine r_begin mt_86 (by intro a ha; simp only [List.mem_cons, List.not_mem_nil, or_false] at ha; rcases ha with rfl <;> rfl) (Nat.le_of_ble_eq_true rfl) ?_
  rw [FX5_isDigit] at hP
  show RB _ _ _ _ [some (.int x0)] [] _ _
  refine r_iload rfl ?_
  refine r_int ?_
  refine r_icmp (fun c1 : x0 < 48 => ?_) (fun c1 : ¬ (x0 < 48) => ?_)
  · rw [if_pos c1] at hP
    refine r_int ?_
    refine r_fall ?_
    exact r_ret rfl rfl (hPQ 0 hP)
  · rw [if_neg c1] at hP
    refine r_iload rfl ?_
    refine r_int ?_
    refine r_icmp (fun c2 : 57 < x0 => ?_) (fun c2 : ¬ (57 < x0) => ?_)
    · rw [if_pos c2] at hP
      refine r_int ?_
      refine r_fall ?_
      exact r_ret rfl rfl (hPQ 0 hP)
    · rw [if_neg c2] at hP
      refine r_int ?_
      refine r_goto ?_
      exact r_ret rfl rfl (hPQ 1 hP)

def FX5_pack (x0 : Int32) (x1 : Int32) : Int32 :=
  ((x0 * 32) + ((x1 - 97) + 1))
set_option maxRecDepth 20000 in
theorem tX5_pack {d : Nat} {B : mB} {v : mV} {w : mX} {Q : Option Int32 → mMH → Prop} (x0 : Int32) (x1 : Int32) (hQ : Q (some (FX5_pack x0 x1)) (mH B (mE v []) w)) : CQ (d + 1) 80 [.int x0, .int x1] (mH B (mE v []) w) Q := by
  obtain ⟨P, hPQ, hP⟩ : ∃ P : Int32 → Prop, (∀ (q : Int32), P q → Q (some q) (mH B (mE v []) w)) ∧ P (FX5_pack x0 x1) := ⟨fun res => Q (some res) (mH B (mE v []) w), fun _ h => h, hQ⟩
  refine r_begin mt_80 (by intro a ha; simp only [List.mem_cons, List.not_mem_nil, or_false] at ha; rcases ha with rfl | rfl <;> rfl) (Nat.le_of_ble_eq_true rfl) ?_
  rw [FX5_pack] at hP
  show RB _ _ _ _ [some (.int x0), some (.int x1)] [] _ _
  refine r_iload rfl ?_
  refine r_int ?_
  refine r_imul ?_
  refine r_iload rfl ?_
  refine r_int ?_
  refine r_isub ?_
  refine r_int ?_
  refine r_iadd ?_
  refine r_iadd ?_
  exact r_ret rfl rfl (hPQ ((x0 * 32) + ((x1 - 97) + 1)) hP)

def FX5_fail (x1 : Int32) (x2 : Int32) (f_this : mF) : Int32 × mF :=
  if (f_this 9) = (-1) then ((0, (upd f_this 9 ((8 * x1) + x2)))) else ((0, f_this))
set_option maxRecDepth 20000 in
theorem tX5_fail {d : Nat} {B : mB} {v : mV} {w : mX} {Q : Option Int32 → mMH → Prop} {ro tp pg : Nat} (hB : isRead B ro tp pg) (ht : tp < ro) (hpg : ro + 20 ≤ pg) (x1 : Int32) (x2 : Int32) (f_this : mF) (hQ : Q (none) (mH B (mE v [(ro, (FX5_fail x1 x2 f_this).2)]) w)) : CQ (d + 1) 82 [.ref ro, .int x1, .int x2] (mH B (mE v [(ro, f_this)]) w) Q := by
  have hn : ∀ (f_this : mF), mNd [(ro, f_this)] := fun _ => by
    show List.Nodup _
    simp only [List.map_cons, List.map_nil, List.nodup_cons, List.mem_cons, List.not_mem_nil, or_false, not_or, not_false_eq_true, List.nodup_nil, and_true]
  obtain ⟨P, hPQ, hP⟩ : ∃ P : Int32 × mF → Prop, (∀ (q : Int32) (q0 : mF), P (q, q0) → Q (none) (mH B (mE v [(ro, q0)]) w)) ∧ P (FX5_fail x1 x2 f_this) := ⟨fun res => Q (none) (mH B (mE v [(ro, res.2)]) w), fun _ _ h => h, hQ⟩
  refine r_begin mt_82 (by intro a ha; simp only [List.mem_cons, List.not_mem_nil, or_false] at ha; rcases ha with rfl | rfl | rfl <;> rfl) (Nat.le_of_ble_eq_true rfl) ?_
  rw [FX5_fail] at hP
  show RB _ _ _ _ [some (.ref ro), some (.int x1), some (.int x2)] [] _ _
  refine r_aload rfl ?_
  refine r_get (x := f_this 9) 0 (hn _) rfl hB.1 (by decide) rfl ?_
  refine r_int ?_
  refine r_icmp1 (fun c1 : (f_this 9) = (-1) => ?_) (fun c1 : ¬ ((f_this 9) = (-1)) => ?_)
  · rw [if_pos c1] at hP
    refine r_aload rfl ?_
    refine r_int ?_
    refine r_iload rfl ?_
    refine r_imul ?_
    refine r_iload rfl ?_
    refine r_iadd ?_
    refine r_put (env' := [(ro, (upd f_this 9 ((8 * x1) + x2)))]) 0 (hn _) rfl rfl hB.1 ?_
    refine r_fall ?_
    exact r_retv rfl (hPQ 0 (upd f_this 9 ((8 * x1) + x2)) hP)
  · rw [if_neg c1] at hP
    exact r_retv rfl (hPQ 0 f_this hP)

def FX5_scanWord_b1 : Nat → Int32 → mF → mF → Int32 × mF
  | 0, y1, _, f_this => (y1, f_this)
  | n + 1, y1, f_tp, f_this =>
    if (f_this 2) ≤ y1 then ((y1, f_this)) else (let u3 := FX5_isLetter (f_tp ((y1 : Int32).toNatClampNeg)); if u3 = 0 then ((y1, f_this)) else (let u6 := FX5_pack (f_this 8) (f_tp ((y1 : Int32).toNatClampNeg)); FX5_scanWord_b1 n (y1 + 1) f_tp (upd f_this 8 u6)))
def OX5_scanWord_b1 : Nat → Int32 → mF → mF → Prop
  | 0, _, _, _ => False
  | n + 1, y1, f_tp, f_this =>
    ((f_this 2) ≤ y1 → True) ∧ (¬ ((f_this 2) ≤ y1) → (vp_in y1 700 ∧ ((let u3 := FX5_isLetter (f_tp ((y1 : Int32).toNatClampNeg)); (u3 = 0 → True) ∧ (¬ (u3 = 0) → (vp_in y1 700 ∧ ((let u6 := FX5_pack (f_this 8) (f_tp ((y1 : Int32).toNatClampNeg)); OX5_scanWord_b1 n (y1 + 1) f_tp (upd f_this 8 u6)))))))))
set_option maxRecDepth 20000 in
theorem tX5_scanWord_b1 {d : Nat} {B : mB} {v : mV} {w : mX} {Q : Option Int32 → mMH → Prop} {ro tp pg : Nat} (hB : isRead B ro tp pg) (ht : tp < ro) (hpg : ro + 20 ≤ pg) {u : Int32 × mF} {f_tp : mF} (hK : RJ (d + 1) kX5_scanWord (none) 2 [some (.ref ro), some (.int u.1)] [] (mH B (mE v [(tp, f_tp), (ro, u.2)]) w) Q) : ∀ (n : Nat) (y1 : Int32) (f_this : mF), OX5_scanWord_b1 n y1 f_tp f_this → FX5_scanWord_b1 n y1 f_tp f_this = u → RJ (d + 1) kX5_scanWord (none) 1 [some (.ref ro), some (.int y1)] [] (mH B (mE v [(tp, f_tp), (ro, f_this)]) w) Q := by
  intro n
  induction n with
  | zero => exact fun _ _ hO => hO.elim
  | succ n ih1 =>
    intro y1 f_this hO hP
    rw [FX5_scanWord_b1] at hP
    rw [OX5_scanWord_b1] at hO
    have hn : ∀ (f_tp : mF) (f_this : mF), mNd [(tp, f_tp), (ro, f_this)] := fun _ _ => by
      show List.Nodup _
      simp only [List.map_cons, List.map_nil, List.nodup_cons, List.mem_cons, List.not_mem_nil, or_false, not_or, not_false_eq_true, List.nodup_nil, and_true]
      omega
    show RB _ _ _ _ [some (.ref ro), some (.int y1)] [] _ _
    refine r_iload rfl ?_
    refine r_aload rfl ?_
    refine r_get (x := f_this 2) 1 (hn _ _) rfl hB.1 (by decide) rfl ?_
    refine r_icmp (fun c1 : (f_this 2) ≤ y1 => ?_) (fun c1 : ¬ ((f_this 2) ≤ y1) => ?_)
    · rw [if_pos c1] at hP
      have hO := hO.1 c1
      subst hP
      exact hK
    · rw [if_neg c1] at hP
      have hO := hO.2 c1
      refine r_aload rfl ?_
      refine r_getr (q := tp) hB.1 hB.2.2.2.2.2.2.2.2.1 ?_
      refine r_iload rfl ?_
      obtain ⟨h2, hO⟩ := hO
      refine r_ald (x := f_tp ((y1 : Int32).toNatClampNeg)) 0 ((y1 : Int32).toNatClampNeg) (hn _ _) rfl hB.2.2.2.2.2.1 (by decide) (Or.inl rfl) h2 rfl rfl ?_
      have k8 := fun (Q' : Option Int32 → mMH → Prop) hq => tX5_isLetter (d := d + 0) (B := B) (v := mE v [(tp, f_tp), (ro, f_this)]) (w := w) (Q := Q') (f_tp ((y1 : Int32).toNatClampNeg)) hq
      generalize hg_u3 : FX5_isLetter (f_tp ((y1 : Int32).toNatClampNeg)) = u3 at k8 hP hO
      try dsimp only at hP hO
      refine r_callS (st := []) (as := [.int (f_tp ((y1 : Int32).toNatClampNeg))]) (envc := []) (envc' := []) (env' := [(tp, f_tp), (ro, f_this)]) (rv := some u3) [] (Or.inl rfl) (hn _ _) rfl rfl (Nat.le_of_ble_eq_true rfl) rfl rfl rfl k8 ?_
      show RB _ _ _ _ _ [.int u3] _ _
      refine r_if (fun c4 : u3 = 0 => ?_) (fun c4 : ¬ (u3 = 0) => ?_)
      · rw [if_pos c4] at hP
        have hO := hO.1 c4
        subst hP
        exact hK
      · rw [if_neg c4] at hP
        have hO := hO.2 c4
        refine r_aload rfl ?_
        refine r_aload rfl ?_
        refine r_get (x := f_this 8) 1 (hn _ _) rfl hB.1 (by decide) rfl ?_
        refine r_aload rfl ?_
        refine r_getr (q := tp) hB.1 hB.2.2.2.2.2.2.2.2.1 ?_
        refine r_iload rfl ?_
        obtain ⟨h5, hO⟩ := hO
        refine r_ald (x := f_tp ((y1 : Int32).toNatClampNeg)) 0 ((y1 : Int32).toNatClampNeg) (hn _ _) rfl hB.2.2.2.2.2.1 (by decide) (Or.inl rfl) h5 rfl rfl ?_
        have k7 := fun (Q' : Option Int32 → mMH → Prop) hq => tX5_pack (d := d + 0) (B := B) (v := mE v [(tp, f_tp), (ro, f_this)]) (w := w) (Q := Q') (f_this 8) (f_tp ((y1 : Int32).toNatClampNeg)) hq
        generalize hg_u6 : FX5_pack (f_this 8) (f_tp ((y1 : Int32).toNatClampNeg)) = u6 at k7 hP hO
        try dsimp only at hP hO
        refine r_callS (st := [.ref ro]) (as := [.int (f_this 8), .int (f_tp ((y1 : Int32).toNatClampNeg))]) (envc := []) (envc' := []) (env' := [(tp, f_tp), (ro, f_this)]) (rv := some u6) [] (Or.inl rfl) (hn _ _) rfl rfl (Nat.le_of_ble_eq_true rfl) rfl rfl rfl k7 ?_
        show RB _ _ _ _ _ [.int u6, .ref ro] _ _
        refine r_put (env' := [(tp, f_tp), (ro, (upd f_this 8 u6))]) 1 (hn _ _) rfl rfl hB.1 ?_
        refine r_iinc (L' := [some (.ref ro), some (.int (y1 + 1))]) rfl rfl rfl ?_
        refine r_goto ?_
        exact ih1 (y1 + 1) (upd f_this 8 u6) hO hP
def FX5_scanWord (f_tp : mF) (f_this : mF) : Int32 × mF :=
  let u9 := FX5_scanWord_b1 10000 (f_this 6) f_tp (upd f_this 8 0); if (u9.1 - (u9.2 6)) ≤ 6 then ((0, (upd (upd u9.2 5 2) 7 u9.1))) else ((0, (upd (upd u9.2 5 1) 7 u9.1)))
def OX5_scanWord (f_tp : mF) (f_this : mF) : Prop :=
  OX5_scanWord_b1 10000 (f_this 6) f_tp (upd f_this 8 0)
set_option maxRecDepth 20000 in
theorem tX5_scanWord {d : Nat} {B : mB} {v : mV} {w : mX} {Q : Option Int32 → mMH → Prop} {ro tp pg : Nat} (hB : isRead B ro tp pg) (ht : tp < ro) (hpg : ro + 20 ≤ pg) (f_tp : mF) (f_this : mF) (hO : OX5_scanWord f_tp f_this) (hQ : Q (none) (mH B (mE v [(tp, f_tp), (ro, (FX5_scanWord f_tp f_this).2)]) w)) : CQ (d + 2) 87 [.ref ro] (mH B (mE v [(tp, f_tp), (ro, f_this)]) w) Q := by
  have hn : ∀ (f_tp : mF) (f_this : mF), mNd [(tp, f_tp), (ro, f_this)] := fun _ _ => by
    show List.Nodup _
    simp only [List.map_cons, List.map_nil, List.nodup_cons, List.mem_cons, List.not_mem_nil, or_false, not_or, not_false_eq_true, List.nodup_nil, and_true]
    omega
  obtain ⟨P, hPQ, hP⟩ : ∃ P : Int32 × mF → Prop, (∀ (q : Int32) (q0 : mF), P (q, q0) → Q (none) (mH B (mE v [(tp, f_tp), (ro, q0)]) w)) ∧ P (FX5_scanWord f_tp f_this) := ⟨fun res => Q (none) (mH B (mE v [(tp, f_tp), (ro, res.2)]) w), fun _ _ h => h, hQ⟩
  refine r_begin mt_87 (by intro a ha; simp only [List.mem_cons, List.not_mem_nil, or_false] at ha; rcases ha with rfl <;> rfl) (Nat.le_of_ble_eq_true rfl) ?_
  rw [FX5_scanWord] at hP
  rw [OX5_scanWord] at hO
  show RB _ _ _ _ [some (.ref ro), none] [] _ _
  refine r_aload rfl ?_
  refine r_get (x := f_this 6) 1 (hn _ _) rfl hB.1 (by decide) rfl ?_
  refine r_istore (L' := [some (.ref ro), some (.int (f_this 6))]) rfl rfl ?_
  refine r_aload rfl ?_
  refine r_int ?_
  refine r_put (env' := [(tp, f_tp), (ro, (upd f_this 8 0))]) 1 (hn _ _) rfl rfl hB.1 ?_
  refine r_fall ?_
  have h10 := hO
  generalize hg_u9 : FX5_scanWord_b1 10000 (f_this 6) f_tp (upd f_this 8 0) = u9 at hP
  try dsimp only at hP
  refine tX5_scanWord_b1 hB ht hpg (u := u9) (f_tp := f_tp) ?_ 10000 (f_this 6) (upd f_this 8 0) h10 hg_u9
  refine r_aload rfl ?_
  refine r_iload rfl ?_
  refine r_aload rfl ?_
  refine r_get (x := u9.2 6) 1 (hn _ _) rfl hB.1 (by decide) rfl ?_
  refine r_isub ?_
  refine r_int ?_
  refine r_icmp (fun c11 : (u9.1 - (u9.2 6)) ≤ 6 => ?_) (fun c11 : ¬ ((u9.1 - (u9.2 6)) ≤ 6) => ?_)
  · rw [if_pos c11] at hP
    refine r_int ?_
    refine r_fall ?_
    refine r_put (env' := [(tp, f_tp), (ro, (upd u9.2 5 2))]) 1 (hn _ _) rfl rfl hB.1 ?_
    refine r_aload rfl ?_
    refine r_iload rfl ?_
    refine r_put (env' := [(tp, f_tp), (ro, (upd (upd u9.2 5 2) 7 u9.1))]) 1 (hn _ _) rfl rfl hB.1 ?_
    exact r_retv rfl (hPQ 0 (upd (upd u9.2 5 2) 7 u9.1) hP)
  · rw [if_neg c11] at hP
    refine r_int ?_
    refine r_goto ?_
    refine r_put (env' := [(tp, f_tp), (ro, (upd u9.2 5 1))]) 1 (hn _ _) rfl rfl hB.1 ?_
    refine r_aload rfl ?_
    refine r_iload rfl ?_
    refine r_put (env' := [(tp, f_tp), (ro, (upd (upd u9.2 5 1) 7 u9.1))]) 1 (hn _ _) rfl rfl hB.1 ?_
    exact r_retv rfl (hPQ 0 (upd (upd u9.2 5 1) 7 u9.1) hP)

def FX5_scanNumber_b5 : Nat → Int32 → Int32 → Int32 → mF → mF → Int32 × mF
  | 0, _, _, y3, _, f_this => (y3, f_this)
  | n + 1, y1, y2, y3, f_tp, f_this =>
    if (f_this 2) ≤ y3 then ((y3, f_this)) else (let u6 := FX5_isDigit (f_tp ((y3 : Int32).toNatClampNeg)); if u6 = 0 then ((y3, f_this)) else (FX5_scanNumber_b5 n y1 y2 (y3 + 1) f_tp (upd f_this 8 (((f_this 8) * 10) + ((f_tp ((y3 : Int32).toNatClampNeg)) - 48)))))
def OX5_scanNumber_b5 : Nat → Int32 → Int32 → Int32 → mF → mF → Prop
  | 0, _, _, _, _, _ => False
  | n + 1, y1, y2, y3, f_tp, f_this =>
    ((f_this 2) ≤ y3 → True) ∧ (¬ ((f_this 2) ≤ y3) → (vp_in y3 700 ∧ ((let u6 := FX5_isDigit (f_tp ((y3 : Int32).toNatClampNeg)); (u6 = 0 → True) ∧ (¬ (u6 = 0) → (vp_in y3 700 ∧ (OX5_scanNumber_b5 n y1 y2 (y3 + 1) f_tp (upd f_this 8 (((f_this 8) * 10) + ((f_tp ((y3 : Int32).toNatClampNeg)) - 48))))))))))
set_option maxRecDepth 20000 in
theorem tX5_scanNumber_b5 {d : Nat} {B : mB} {v : mV} {w : mX} {Q : Option Int32 → mMH → Prop} {ro tp pg : Nat} (hB : isRead B ro tp pg) (ht : tp < ro) (hpg : ro + 20 ≤ pg) (y1 : Int32) (y2 : Int32) {u : Int32 × mF} {f_tp : mF} (hK : RJ (d + 1) kX5_scanNumber (none) 6 [some (.ref ro), some (.int y1), some (.int y2), some (.int u.1)] [] (mH B (mE v [(tp, f_tp), (ro, u.2)]) w) Q) : ∀ (n : Nat) (y3 : Int32) (f_this : mF), OX5_scanNumber_b5 n y1 y2 y3 f_tp f_this → FX5_scanNumber_b5 n y1 y2 y3 f_tp f_this = u → RJ (d + 1) kX5_scanNumber (none) 5 [some (.ref ro), some (.int y1), some (.int y2), some (.int y3)] [] (mH B (mE v [(tp, f_tp), (ro, f_this)]) w) Q := by
  intro n
  induction n with
  | zero => exact fun _ _ hO => hO.elim
  | succ n ih5 =>
    intro y3 f_this hO hP
    rw [FX5_scanNumber_b5] at hP
    rw [OX5_scanNumber_b5] at hO
    have hn : ∀ (f_tp : mF) (f_this : mF), mNd [(tp, f_tp), (ro, f_this)] := fun _ _ => by
      show List.Nodup _
      simp only [List.map_cons, List.map_nil, List.nodup_cons, List.mem_cons, List.not_mem_nil, or_false, not_or, not_false_eq_true, List.nodup_nil, and_true]
      omega
    show RB _ _ _ _ [some (.ref ro), some (.int y1), some (.int y2), some (.int y3)] [] _ _
    refine r_iload rfl ?_
    refine r_aload rfl ?_
    refine r_get (x := f_this 2) 1 (hn _ _) rfl hB.1 (by decide) rfl ?_
    refine r_icmp (fun c4 : (f_this 2) ≤ y3 => ?_) (fun c4 : ¬ ((f_this 2) ≤ y3) => ?_)
    · rw [if_pos c4] at hP
      have hO := hO.1 c4
      subst hP
      exact hK
    · rw [if_neg c4] at hP
      have hO := hO.2 c4
      refine r_aload rfl ?_
      refine r_getr (q := tp) hB.1 hB.2.2.2.2.2.2.2.2.1 ?_
      refine r_iload rfl ?_
      obtain ⟨h5, hO⟩ := hO
      refine r_ald (x := f_tp ((y3 : Int32).toNatClampNeg)) 0 ((y3 : Int32).toNatClampNeg) (hn _ _) rfl hB.2.2.2.2.2.1 (by decide) (Or.inl rfl) h5 rfl rfl ?_
      have k9 := fun (Q' : Option Int32 → mMH → Prop) hq => tX5_isDigit (d := d + 0) (B := B) (v := mE v [(tp, f_tp), (ro, f_this)]) (w := w) (Q := Q') (f_tp ((y3 : Int32).toNatClampNeg)) hq
      generalize hg_u6 : FX5_isDigit (f_tp ((y3 : Int32).toNatClampNeg)) = u6 at k9 hP hO
      try dsimp only at hP hO
      refine r_callS (st := []) (as := [.int (f_tp ((y3 : Int32).toNatClampNeg))]) (envc := []) (envc' := []) (env' := [(tp, f_tp), (ro, f_this)]) (rv := some u6) [] (Or.inl rfl) (hn _ _) rfl rfl (Nat.le_of_ble_eq_true rfl) rfl rfl rfl k9 ?_
      show RB _ _ _ _ _ [.int u6] _ _
      refine r_if (fun c7 : u6 = 0 => ?_) (fun c7 : ¬ (u6 = 0) => ?_)
      · rw [if_pos c7] at hP
        have hO := hO.1 c7
        subst hP
        exact hK
      · rw [if_neg c7] at hP
        have hO := hO.2 c7
        refine r_aload rfl ?_
        refine r_aload rfl ?_
        refine r_get (x := f_this 8) 1 (hn _ _) rfl hB.1 (by decide) rfl ?_
        refine r_int ?_
        refine r_imul ?_
        refine r_aload rfl ?_
        refine r_getr (q := tp) hB.1 hB.2.2.2.2.2.2.2.2.1 ?_
        refine r_iload rfl ?_
        obtain ⟨h8, hO⟩ := hO
        refine r_ald (x := f_tp ((y3 : Int32).toNatClampNeg)) 0 ((y3 : Int32).toNatClampNeg) (hn _ _) rfl hB.2.2.2.2.2.1 (by decide) (Or.inl rfl) h8 rfl rfl ?_
        refine r_int ?_
        refine r_isub ?_
        refine r_iadd ?_
        refine r_put (env' := [(tp, f_tp), (ro, (upd f_this 8 (((f_this 8) * 10) + ((f_tp ((y3 : Int32).toNatClampNeg)) - 48))))]) 1 (hn _ _) rfl rfl hB.1 ?_
        refine r_iinc (L' := [some (.ref ro), some (.int y1), some (.int y2), some (.int (y3 + 1))]) rfl rfl rfl ?_
        refine r_goto ?_
        exact ih5 (y3 + 1) (upd f_this 8 (((f_this 8) * 10) + ((f_tp ((y3 : Int32).toNatClampNeg)) - 48))) hO hP
def FX5_scanNumber_b6 (y1 : Int32) (y2 : Int32) (y3 : Int32) (f_tp : mF) (f_this : mF) : Int32 × mF :=
  if y1 = 0 then (if y3 = y2 then ((0, (upd (upd f_this 5 1) 7 y3))) else (if (y3 - y2) ≤ 4 then ((0, (upd (upd f_this 5 3) 7 y3))) else ((0, (upd (upd f_this 5 1) 7 y3))))) else (if y3 = y2 then ((0, (upd (upd (upd f_this 8 (-(f_this 8))) 5 1) 7 y3))) else (if (y3 - y2) ≤ 4 then ((0, (upd (upd (upd f_this 8 (-(f_this 8))) 5 3) 7 y3))) else ((0, (upd (upd (upd f_this 8 (-(f_this 8))) 5 1) 7 y3)))))
set_option maxRecDepth 20000 in
theorem tX5_scanNumber_b6 {d : Nat} {B : mB} {v : mV} {w : mX} {Q : Option Int32 → mMH → Prop} {ro tp pg : Nat} (hB : isRead B ro tp pg) (ht : tp < ro) (hpg : ro + 20 ≤ pg) {P : Int32 × mF → Prop} {f_tp : mF} (hPQ : ∀ (q : Int32) (q0 : mF), P (q, q0) → Q (none) (mH B (mE v [(tp, f_tp), (ro, q0)]) w)) : ∀ (y1 : Int32) (y2 : Int32) (y3 : Int32) (f_this : mF), P (FX5_scanNumber_b6 y1 y2 y3 f_tp f_this) → RJ (d + 1) kX5_scanNumber (none) 6 [some (.ref ro), some (.int y1), some (.int y2), some (.int y3)] [] (mH B (mE v [(tp, f_tp), (ro, f_this)]) w) Q := by
  intro y1 y2 y3 f_this hP
  rw [FX5_scanNumber_b6] at hP
  have hn : ∀ (f_tp : mF) (f_this : mF), mNd [(tp, f_tp), (ro, f_this)] := fun _ _ => by
    show List.Nodup _
    simp only [List.map_cons, List.map_nil, List.nodup_cons, List.mem_cons, List.not_mem_nil, or_false, not_or, not_false_eq_true, List.nodup_nil, and_true]
    omega
  show RB _ _ _ _ [some (.ref ro), some (.int y1), some (.int y2), some (.int y3)] [] _ _
  refine r_iload rfl ?_
  refine r_if (fun c12 : y1 = 0 => ?_) (fun c12 : ¬ (y1 = 0) => ?_)
  · rw [if_pos c12] at hP
    refine r_aload rfl ?_
    refine r_iload rfl ?_
    refine r_iload rfl ?_
    refine r_icmp (fun c13 : y3 = y2 => ?_) (fun c13 : ¬ (y3 = y2) => ?_)
    · rw [if_pos c13] at hP
      refine r_int ?_
      refine r_goto ?_
      refine r_put (env' := [(tp, f_tp), (ro, (upd f_this 5 1))]) 1 (hn _ _) rfl rfl hB.1 ?_
      refine r_aload rfl ?_
      refine r_iload rfl ?_
      refine r_put (env' := [(tp, f_tp), (ro, (upd (upd f_this 5 1) 7 y3))]) 1 (hn _ _) rfl rfl hB.1 ?_
      exact r_retv rfl (hPQ 0 (upd (upd f_this 5 1) 7 y3) hP)
    · rw [if_neg c13] at hP
      refine r_iload rfl ?_
      refine r_iload rfl ?_
      refine r_isub ?_
      refine r_int ?_
      refine r_icmp (fun c14 : (y3 - y2) ≤ 4 => ?_) (fun c14 : ¬ ((y3 - y2) ≤ 4) => ?_)
      · rw [if_pos c14] at hP
        refine r_int ?_
        refine r_fall ?_
        refine r_put (env' := [(tp, f_tp), (ro, (upd f_this 5 3))]) 1 (hn _ _) rfl rfl hB.1 ?_
        refine r_aload rfl ?_
        refine r_iload rfl ?_
        refine r_put (env' := [(tp, f_tp), (ro, (upd (upd f_this 5 3) 7 y3))]) 1 (hn _ _) rfl rfl hB.1 ?_
        exact r_retv rfl (hPQ 0 (upd (upd f_this 5 3) 7 y3) hP)
      · rw [if_neg c14] at hP
        refine r_fall ?_
        refine r_int ?_
        refine r_goto ?_
        refine r_put (env' := [(tp, f_tp), (ro, (upd f_this 5 1))]) 1 (hn _ _) rfl rfl hB.1 ?_
        refine r_aload rfl ?_
        refine r_iload rfl ?_
        refine r_put (env' := [(tp, f_tp), (ro, (upd (upd f_this 5 1) 7 y3))]) 1 (hn _ _) rfl rfl hB.1 ?_
        exact r_retv rfl (hPQ 0 (upd (upd f_this 5 1) 7 y3) hP)
  · rw [if_neg c12] at hP
    refine r_aload rfl ?_
    refine r_aload rfl ?_
    refine r_get (x := f_this 8) 1 (hn _ _) rfl hB.1 (by decide) rfl ?_
    refine r_ineg ?_
    refine r_put (env' := [(tp, f_tp), (ro, (upd f_this 8 (-(f_this 8))))]) 1 (hn _ _) rfl rfl hB.1 ?_
    refine r_fall ?_
    refine r_aload rfl ?_
    refine r_iload rfl ?_
    refine r_iload rfl ?_
    refine r_icmp (fun c15 : y3 = y2 => ?_) (fun c15 : ¬ (y3 = y2) => ?_)
    · rw [if_pos c15] at hP
      refine r_int ?_
      refine r_goto ?_
      refine r_put (env' := [(tp, f_tp), (ro, (upd (upd f_this 8 (-(f_this 8))) 5 1))]) 1 (hn _ _) rfl rfl hB.1 ?_
      refine r_aload rfl ?_
      refine r_iload rfl ?_
      refine r_put (env' := [(tp, f_tp), (ro, (upd (upd (upd f_this 8 (-(f_this 8))) 5 1) 7 y3))]) 1 (hn _ _) rfl rfl hB.1 ?_
      exact r_retv rfl (hPQ 0 (upd (upd (upd f_this 8 (-(f_this 8))) 5 1) 7 y3) hP)
    · rw [if_neg c15] at hP
      refine r_iload rfl ?_
      refine r_iload rfl ?_
      refine r_isub ?_
      refine r_int ?_
      refine r_icmp (fun c16 : (y3 - y2) ≤ 4 => ?_) (fun c16 : ¬ ((y3 - y2) ≤ 4) => ?_)
      · rw [if_pos c16] at hP
        refine r_int ?_
        refine r_fall ?_
        refine r_put (env' := [(tp, f_tp), (ro, (upd (upd f_this 8 (-(f_this 8))) 5 3))]) 1 (hn _ _) rfl rfl hB.1 ?_
        refine r_aload rfl ?_
        refine r_iload rfl ?_
        refine r_put (env' := [(tp, f_tp), (ro, (upd (upd (upd f_this 8 (-(f_this 8))) 5 3) 7 y3))]) 1 (hn _ _) rfl rfl hB.1 ?_
        exact r_retv rfl (hPQ 0 (upd (upd (upd f_this 8 (-(f_this 8))) 5 3) 7 y3) hP)
      · rw [if_neg c16] at hP
        refine r_fall ?_
        refine r_int ?_
        refine r_goto ?_
        refine r_put (env' := [(tp, f_tp), (ro, (upd (upd f_this 8 (-(f_this 8))) 5 1))]) 1 (hn _ _) rfl rfl hB.1 ?_
        refine r_aload rfl ?_
        refine r_iload rfl ?_
        refine r_put (env' := [(tp, f_tp), (ro, (upd (upd (upd f_this 8 (-(f_this 8))) 5 1) 7 y3))]) 1 (hn _ _) rfl rfl hB.1 ?_
        exact r_retv rfl (hPQ 0 (upd (upd (upd f_this 8 (-(f_this 8))) 5 1) 7 y3) hP)
def FX5_scanNumber_b2 (z0 : Int32) (f_tp : mF) (f_this : mF) : Int32 × mF :=
  if z0 = 0 then (let u10 := FX5_scanNumber_b5 10000 z0 (f_this 6) (f_this 6) f_tp (upd f_this 8 0); FX5_scanNumber_b6 z0 (f_this 6) u10.1 f_tp u10.2) else (let u17 := FX5_scanNumber_b5 10000 z0 ((f_this 6) + 1) ((f_this 6) + 1) f_tp (upd f_this 8 0); FX5_scanNumber_b6 z0 ((f_this 6) + 1) u17.1 f_tp u17.2)
def OX5_scanNumber_b2 (z0 : Int32) (f_tp : mF) (f_this : mF) : Prop :=
  (z0 = 0 → (OX5_scanNumber_b5 10000 z0 (f_this 6) (f_this 6) f_tp (upd f_this 8 0))) ∧ (¬ (z0 = 0) → (OX5_scanNumber_b5 10000 z0 ((f_this 6) + 1) ((f_this 6) + 1) f_tp (upd f_this 8 0)))
set_option maxRecDepth 20000 in
theorem tX5_scanNumber_b2 {d : Nat} {B : mB} {v : mV} {w : mX} {Q : Option Int32 → mMH → Prop} {ro tp pg : Nat} (hB : isRead B ro tp pg) (ht : tp < ro) (hpg : ro + 20 ≤ pg) {P : Int32 × mF → Prop} {f_tp : mF} (hPQ : ∀ (q : Int32) (q0 : mF), P (q, q0) → Q (none) (mH B (mE v [(tp, f_tp), (ro, q0)]) w)) : ∀ (z0 : Int32) (e1 : Option Value) (he1 : mC1 e1 = true) (e2 : Option Value) (he2 : mC1 e2 = true) (e3 : Option Value) (he3 : mC1 e3 = true) (f_this : mF), OX5_scanNumber_b2 z0 f_tp f_this → P (FX5_scanNumber_b2 z0 f_tp f_this) → RJ (d + 1) kX5_scanNumber (none) 2 [some (.ref ro), e1, e2, e3] [.int z0] (mH B (mE v [(tp, f_tp), (ro, f_this)]) w) Q := by
  intro z0 e1 he1 e2 he2 e3 he3 f_this hO hP
  rw [FX5_scanNumber_b2] at hP
  rw [OX5_scanNumber_b2] at hO
  have hn : ∀ (f_tp : mF) (f_this : mF), mNd [(tp, f_tp), (ro, f_this)] := fun _ _ => by
    show List.Nodup _
    simp only [List.map_cons, List.map_nil, List.nodup_cons, List.mem_cons, List.not_mem_nil, or_false, not_or, not_false_eq_true, List.nodup_nil, and_true]
    omega
  show RB _ _ _ _ [some (.ref ro), e1, e2, e3] [.int z0] _ _
  refine r_istore (L' := [some (.ref ro), some (.int z0), e2, e3]) rfl rfl ?_
  refine r_iload rfl ?_
  refine r_if (fun c3 : z0 = 0 => ?_) (fun c3 : ¬ (z0 = 0) => ?_)
  · rw [if_pos c3] at hP
    have hO := hO.1 c3
    refine r_aload rfl ?_
    refine r_get (x := f_this 6) 1 (hn _ _) rfl hB.1 (by decide) rfl ?_
    refine r_fall ?_
    refine r_istore (L' := [some (.ref ro), some (.int z0), some (.int (f_this 6)), e3]) rfl rfl ?_
    refine r_iload rfl ?_
    refine r_istore (L' := [some (.ref ro), some (.int z0), some (.int (f_this 6)), some (.int (f_this 6))]) rfl rfl ?_
    refine r_aload rfl ?_
    refine r_int ?_
    refine r_put (env' := [(tp, f_tp), (ro, (upd f_this 8 0))]) 1 (hn _ _) rfl rfl hB.1 ?_
    refine r_fall ?_
    have h11 := hO
    generalize hg_u10 : FX5_scanNumber_b5 10000 z0 (f_this 6) (f_this 6) f_tp (upd f_this 8 0) = u10 at hP
    try dsimp only at hP
    refine tX5_scanNumber_b5 hB ht hpg z0 (f_this 6) (u := u10) (f_tp := f_tp) ?_ 10000 (f_this 6) (upd f_this 8 0) h11 hg_u10
    exact tX5_scanNumber_b6 hB ht hpg hPQ z0 (f_this 6) u10.1 u10.2 hP
  · rw [if_neg c3] at hP
    have hO := hO.2 c3
    refine r_aload rfl ?_
    refine r_get (x := f_this 6) 1 (hn _ _) rfl hB.1 (by decide) rfl ?_
    refine r_int ?_
    refine r_iadd ?_
    refine r_goto ?_
    refine r_istore (L' := [some (.ref ro), some (.int z0), some (.int ((f_this 6) + 1)), e3]) rfl rfl ?_
    refine r_iload rfl ?_
    refine r_istore (L' := [some (.ref ro), some (.int z0), some (.int ((f_this 6) + 1)), some (.int ((f_this 6) + 1))]) rfl rfl ?_
    refine r_aload rfl ?_
    refine r_int ?_
    refine r_put (env' := [(tp, f_tp), (ro, (upd f_this 8 0))]) 1 (hn _ _) rfl rfl hB.1 ?_
    refine r_fall ?_
    have h18 := hO
    generalize hg_u17 : FX5_scanNumber_b5 10000 z0 ((f_this 6) + 1) ((f_this 6) + 1) f_tp (upd f_this 8 0) = u17 at hP
    try dsimp only at hP
    refine tX5_scanNumber_b5 hB ht hpg z0 ((f_this 6) + 1) (u := u17) (f_tp := f_tp) ?_ 10000 ((f_this 6) + 1) (upd f_this 8 0) h18 hg_u17
    exact tX5_scanNumber_b6 hB ht hpg hPQ z0 ((f_this 6) + 1) u17.1 u17.2 hP
def FX5_scanNumber (f_tp : mF) (f_this : mF) : Int32 × mF :=
  if (f_tp ((f_this 6 : Int32).toNatClampNeg)) = 45 then (FX5_scanNumber_b2 1 f_tp f_this) else (FX5_scanNumber_b2 0 f_tp f_this)
def OX5_scanNumber (f_tp : mF) (f_this : mF) : Prop :=
  vp_in (f_this 6) 700 ∧ (((f_tp ((f_this 6 : Int32).toNatClampNeg)) = 45 → (OX5_scanNumber_b2 1 f_tp f_this)) ∧ (¬ ((f_tp ((f_this 6 : Int32).toNatClampNeg)) = 45) → (OX5_scanNumber_b2 0 f_tp f_this)))
set_option maxRecDepth 20000 in
theorem tX5_scanNumber {d : Nat} {B : mB} {v : mV} {w : mX} {Q : Option Int32 → mMH → Prop} {ro tp pg : Nat} (hB : isRead B ro tp pg) (ht : tp < ro) (hpg : ro + 20 ≤ pg) (f_tp : mF) (f_this : mF) (hO : OX5_scanNumber f_tp f_this) (hQ : Q (none) (mH B (mE v [(tp, f_tp), (ro, (FX5_scanNumber f_tp f_this).2)]) w)) : CQ (d + 2) 88 [.ref ro] (mH B (mE v [(tp, f_tp), (ro, f_this)]) w) Q := by
  have hn : ∀ (f_tp : mF) (f_this : mF), mNd [(tp, f_tp), (ro, f_this)] := fun _ _ => by
    show List.Nodup _
    simp only [List.map_cons, List.map_nil, List.nodup_cons, List.mem_cons, List.not_mem_nil, or_false, not_or, not_false_eq_true, List.nodup_nil, and_true]
    omega
  obtain ⟨P, hPQ, hP⟩ : ∃ P : Int32 × mF → Prop, (∀ (q : Int32) (q0 : mF), P (q, q0) → Q (none) (mH B (mE v [(tp, f_tp), (ro, q0)]) w)) ∧ P (FX5_scanNumber f_tp f_this) := ⟨fun res => Q (none) (mH B (mE v [(tp, f_tp), (ro, res.2)]) w), fun _ _ h => h, hQ⟩
  refine r_begin mt_88 (by intro a ha; simp only [List.mem_cons, List.not_mem_nil, or_false] at ha; rcases ha with rfl <;> rfl) (Nat.le_of_ble_eq_true rfl) ?_
  rw [FX5_scanNumber] at hP
  rw [OX5_scanNumber] at hO
  show RB _ _ _ _ [some (.ref ro), none, none, none] [] _ _
  refine r_aload rfl ?_
  refine r_getr (q := tp) hB.1 hB.2.2.2.2.2.2.2.2.1 ?_
  refine r_aload rfl ?_
  refine r_get (x := f_this 6) 1 (hn _ _) rfl hB.1 (by decide) rfl ?_
  obtain ⟨h1, hO⟩ := hO
  refine r_ald (x := f_tp ((f_this 6 : Int32).toNatClampNeg)) 0 ((f_this 6 : Int32).toNatClampNeg) (hn _ _) rfl hB.2.2.2.2.2.1 (by decide) (Or.inl rfl) h1 rfl rfl ?_
  refine r_int ?_
  refine r_icmp1 (fun c2 : (f_tp ((f_this 6 : Int32).toNatClampNeg)) = 45 => ?_) (fun c2 : ¬ ((f_tp ((f_this 6 : Int32).toNatClampNeg)) = 45) => ?_)
  · rw [if_pos c2] at hP
    have hO := hO.1 c2
    refine r_int ?_
    refine r_goto ?_
    exact tX5_scanNumber_b2 hB ht hpg hPQ 1 none rfl none rfl none rfl f_this hO hP
  · rw [if_neg c2] at hP
    have hO := hO.2 c2
    refine r_int ?_
    refine r_fall ?_
    exact tX5_scanNumber_b2 hB ht hpg hPQ 0 none rfl none rfl none rfl f_this hO hP

def FX5_scan_b1 : Nat → Int32 → mF → mF → Int32
  | 0, y1, _, _ => y1
  | n + 1, y1, f_tp, f_this =>
    if (f_this 2) ≤ y1 then (y1) else (if (f_tp ((y1 : Int32).toNatClampNeg)) = 32 then (FX5_scan_b1 n (y1 + 1) f_tp f_this) else (if (f_tp ((y1 : Int32).toNatClampNeg)) = 10 then (FX5_scan_b1 n (y1 + 1) f_tp f_this) else (y1)))
def OX5_scan_b1 : Nat → Int32 → mF → mF → Prop
  | 0, _, _, _ => False
  | n + 1, y1, f_tp, f_this =>
    ((f_this 2) ≤ y1 → True) ∧ (¬ ((f_this 2) ≤ y1) → (vp_in y1 700 ∧ (((f_tp ((y1 : Int32).toNatClampNeg)) = 32 → (OX5_scan_b1 n (y1 + 1) f_tp f_this)) ∧ (¬ ((f_tp ((y1 : Int32).toNatClampNeg)) = 32) → (vp_in y1 700 ∧ (((f_tp ((y1 : Int32).toNatClampNeg)) = 10 → (OX5_scan_b1 n (y1 + 1) f_tp f_this)) ∧ (¬ ((f_tp ((y1 : Int32).toNatClampNeg)) = 10) → True)))))))
set_option maxRecDepth 20000 in
theorem tX5_scan_b1 {d : Nat} {B : mB} {v : mV} {w : mX} {Q : Option Int32 → mMH → Prop} {ro tp pg : Nat} (hB : isRead B ro tp pg) (ht : tp < ro) (hpg : ro + 20 ≤ pg) {u : Int32} {f_tp : mF} {f_this : mF} (hK : RJ (d + 2) kX5_scan (none) 3 [some (.ref ro), some (.int u)] [] (mH B (mE v [(tp, f_tp), (ro, f_this)]) w) Q) : ∀ (n : Nat) (y1 : Int32), OX5_scan_b1 n y1 f_tp f_this → FX5_scan_b1 n y1 f_tp f_this = u → RJ (d + 2) kX5_scan (none) 1 [some (.ref ro), some (.int y1)] [] (mH B (mE v [(tp, f_tp), (ro, f_this)]) w) Q := by
  intro n
  induction n with
  | zero => exact fun _ hO => hO.elim
  | succ n ih1 =>
    intro y1 hO hP
    rw [FX5_scan_b1] at hP
    rw [OX5_scan_b1] at hO
    have hn : ∀ (f_tp : mF) (f_this : mF), mNd [(tp, f_tp), (ro, f_this)] := fun _ _ => by
      show List.Nodup _
      simp only [List.map_cons, List.map_nil, List.nodup_cons, List.mem_cons, List.not_mem_nil, or_false, not_or, not_false_eq_true, List.nodup_nil, and_true]
      omega
    show RB _ _ _ _ [some (.ref ro), some (.int y1)] [] _ _
    refine r_iload rfl ?_
    refine r_aload rfl ?_
    refine r_get (x := f_this 2) 1 (hn _ _) rfl hB.1 (by decide) rfl ?_
    refine r_icmp (fun c1 : (f_this 2) ≤ y1 => ?_) (fun c1 : ¬ ((f_this 2) ≤ y1) => ?_)
    · rw [if_pos c1] at hP
      have hO := hO.1 c1
      subst hP
      exact hK
    · rw [if_neg c1] at hP
      have hO := hO.2 c1
      refine r_aload rfl ?_
      refine r_getr (q := tp) hB.1 hB.2.2.2.2.2.2.2.2.1 ?_
      refine r_iload rfl ?_
      obtain ⟨h2, hO⟩ := hO
      refine r_ald (x := f_tp ((y1 : Int32).toNatClampNeg)) 0 ((y1 : Int32).toNatClampNeg) (hn _ _) rfl hB.2.2.2.2.2.1 (by decide) (Or.inl rfl) h2 rfl rfl ?_
      refine r_int ?_
      refine r_icmp (fun c3 : (f_tp ((y1 : Int32).toNatClampNeg)) = 32 => ?_) (fun c3 : ¬ ((f_tp ((y1 : Int32).toNatClampNeg)) = 32) => ?_)
      · rw [if_pos c3] at hP
        have hO := hO.1 c3
        refine r_iinc (L' := [some (.ref ro), some (.int (y1 + 1))]) rfl rfl rfl ?_
        refine r_goto ?_
        exact ih1 (y1 + 1) hO hP
      · rw [if_neg c3] at hP
        have hO := hO.2 c3
        refine r_aload rfl ?_
        refine r_getr (q := tp) hB.1 hB.2.2.2.2.2.2.2.2.1 ?_
        refine r_iload rfl ?_
        obtain ⟨h4, hO⟩ := hO
        refine r_ald (x := f_tp ((y1 : Int32).toNatClampNeg)) 0 ((y1 : Int32).toNatClampNeg) (hn _ _) rfl hB.2.2.2.2.2.1 (by decide) (Or.inl rfl) h4 rfl rfl ?_
        refine r_int ?_
        refine r_icmp1 (fun c5 : (f_tp ((y1 : Int32).toNatClampNeg)) = 10 => ?_) (fun c5 : ¬ ((f_tp ((y1 : Int32).toNatClampNeg)) = 10) => ?_)
        · rw [if_pos c5] at hP
          have hO := hO.1 c5
          refine r_fall ?_
          refine r_iinc (L' := [some (.ref ro), some (.int (y1 + 1))]) rfl rfl rfl ?_
          refine r_goto ?_
          exact ih1 (y1 + 1) hO hP
        · rw [if_neg c5] at hP
          have hO := hO.2 c5
          subst hP
          exact hK
def FX5_scan_b3 (y1 : Int32) (f_tp : mF) (f_this : mF) : Int32 × mF :=
  if y1 < (f_this 2) then (let u10 := FX5_isLetter (f_tp ((y1 : Int32).toNatClampNeg)); if u10 = 0 then (if (f_tp ((y1 : Int32).toNatClampNeg)) = 45 then (let u14 := FX5_scanNumber f_tp (upd f_this 6 y1); (0, u14.2)) else (let u18 := FX5_isDigit (f_tp ((y1 : Int32).toNatClampNeg)); if u18 = 0 then (if (f_tp ((y1 : Int32).toNatClampNeg)) = 59 then ((0, (upd (upd (upd f_this 6 y1) 5 (f_tp ((y1 : Int32).toNatClampNeg))) 7 (y1 + 1)))) else (if (f_tp ((y1 : Int32).toNatClampNeg)) = 58 then ((0, (upd (upd (upd f_this 6 y1) 5 (f_tp ((y1 : Int32).toNatClampNeg))) 7 (y1 + 1)))) else ((0, (upd (upd (upd f_this 6 y1) 5 1) 7 (y1 + 1)))))) else (let u26 := FX5_scanNumber f_tp (upd f_this 6 y1); (0, u26.2)))) else (let u30 := FX5_scanWord f_tp (upd f_this 6 y1); (0, u30.2))) else ((0, (upd (upd f_this 6 y1) 5 0)))
def OX5_scan_b3 (y1 : Int32) (f_tp : mF) (f_this : mF) : Prop :=
  (y1 < (f_this 2) → (vp_in y1 700 ∧ ((let u10 := FX5_isLetter (f_tp ((y1 : Int32).toNatClampNeg)); (u10 = 0 → (vp_in y1 700 ∧ (((f_tp ((y1 : Int32).toNatClampNeg)) = 45 → (OX5_scanNumber f_tp (upd f_this 6 y1))) ∧ (¬ ((f_tp ((y1 : Int32).toNatClampNeg)) = 45) → (vp_in y1 700 ∧ ((let u18 := FX5_isDigit (f_tp ((y1 : Int32).toNatClampNeg)); (u18 = 0 → (vp_in y1 700 ∧ (((f_tp ((y1 : Int32).toNatClampNeg)) = 59 → (vp_in y1 700)) ∧ (¬ ((f_tp ((y1 : Int32).toNatClampNeg)) = 59) → (vp_in y1 700 ∧ (((f_tp ((y1 : Int32).toNatClampNeg)) = 58 → (vp_in y1 700)) ∧ (¬ ((f_tp ((y1 : Int32).toNatClampNeg)) = 58) → True))))))) ∧ (¬ (u18 = 0) → (OX5_scanNumber f_tp (upd f_this 6 y1)))))))))) ∧ (¬ (u10 = 0) → (OX5_scanWord f_tp (upd f_this 6 y1))))))) ∧ (¬ (y1 < (f_this 2)) → True)
set_option maxRecDepth 20000 in
theorem tX5_scan_b3 {d : Nat} {B : mB} {v : mV} {w : mX} {Q : Option Int32 → mMH → Prop} {ro tp pg : Nat} (hB : isRead B ro tp pg) (ht : tp < ro) (hpg : ro + 20 ≤ pg) {P : Int32 × mF → Prop} {f_tp : mF} (hPQ : ∀ (q : Int32) (q0 : mF), P (q, q0) → Q (none) (mH B (mE v [(tp, f_tp), (ro, q0)]) w)) : ∀ (y1 : Int32) (f_this : mF), OX5_scan_b3 y1 f_tp f_this → P (FX5_scan_b3 y1 f_tp f_this) → RJ (d + 2) kX5_scan (none) 3 [some (.ref ro), some (.int y1)] [] (mH B (mE v [(tp, f_tp), (ro, f_this)]) w) Q := by
  intro y1 f_this hO hP
  rw [FX5_scan_b3] at hP
  rw [OX5_scan_b3] at hO
  have hn : ∀ (f_tp : mF) (f_this : mF), mNd [(tp, f_tp), (ro, f_this)] := fun _ _ => by
    show List.Nodup _
    simp only [List.map_cons, List.map_nil, List.nodup_cons, List.mem_cons, List.not_mem_nil, or_false, not_or, not_false_eq_true, List.nodup_nil, and_true]
    omega
  show RB _ _ _ _ [some (.ref ro), some (.int y1)] [] _ _
  refine r_aload rfl ?_
  refine r_iload rfl ?_
  refine r_put (env' := [(tp, f_tp), (ro, (upd f_this 6 y1))]) 1 (hn _ _) rfl rfl hB.1 ?_
  refine r_iload rfl ?_
  refine r_aload rfl ?_
  refine r_get (x := f_this 2) 1 (hn _ _) rfl hB.1 (by decide) (pk_un (nebq rfl)) ?_
  refine r_icmp (fun c8 : y1 < (f_this 2) => ?_) (fun c8 : ¬ (y1 < (f_this 2)) => ?_)
  · rw [if_pos c8] at hP
    have hO := hO.1 c8
    refine r_aload rfl ?_
    refine r_getr (q := tp) hB.1 hB.2.2.2.2.2.2.2.2.1 ?_
    refine r_iload rfl ?_
    obtain ⟨h9, hO⟩ := hO
    refine r_ald (x := f_tp ((y1 : Int32).toNatClampNeg)) 0 ((y1 : Int32).toNatClampNeg) (hn _ _) rfl hB.2.2.2.2.2.1 (by decide) (Or.inl rfl) h9 rfl rfl ?_
    have k33 := fun (Q' : Option Int32 → mMH → Prop) hq => tX5_isLetter (d := d + 1) (B := B) (v := mE v [(tp, f_tp), (ro, (upd f_this 6 y1))]) (w := w) (Q := Q') (f_tp ((y1 : Int32).toNatClampNeg)) hq
    generalize hg_u10 : FX5_isLetter (f_tp ((y1 : Int32).toNatClampNeg)) = u10 at k33 hP hO
    try dsimp only at hP hO
    refine r_callS (st := []) (as := [.int (f_tp ((y1 : Int32).toNatClampNeg))]) (envc := []) (envc' := []) (env' := [(tp, f_tp), (ro, (upd f_this 6 y1))]) (rv := some u10) [] (Or.inl rfl) (hn _ _) rfl rfl (Nat.le_of_ble_eq_true rfl) rfl rfl rfl k33 ?_
    show RB _ _ _ _ _ [.int u10] _ _
    refine r_if (fun c11 : u10 = 0 => ?_) (fun c11 : ¬ (u10 = 0) => ?_)
    · rw [if_pos c11] at hP
      have hO := hO.1 c11
      refine r_aload rfl ?_
      refine r_getr (q := tp) hB.1 hB.2.2.2.2.2.2.2.2.1 ?_
      refine r_iload rfl ?_
      obtain ⟨h12, hO⟩ := hO
      refine r_ald (x := f_tp ((y1 : Int32).toNatClampNeg)) 0 ((y1 : Int32).toNatClampNeg) (hn _ _) rfl hB.2.2.2.2.2.1 (by decide) (Or.inl rfl) h12 rfl rfl ?_
      refine r_int ?_
      refine r_icmp (fun c13 : (f_tp ((y1 : Int32).toNatClampNeg)) = 45 => ?_) (fun c13 : ¬ ((f_tp ((y1 : Int32).toNatClampNeg)) = 45) => ?_)
      · rw [if_pos c13] at hP
        have hO := hO.1 c13
        refine r_aload rfl ?_
        have h15 := hO
        have k16 := fun (Q' : Option Int32 → mMH → Prop) hq => tX5_scanNumber (d := d + 0) (B := B) (v := mE v [(tp, f_tp), (ro, (upd f_this 6 y1))]) (w := w) (Q := Q') hB (by omega) (by omega) f_tp (upd f_this 6 y1) h15 hq
        generalize hg_u14 : FX5_scanNumber f_tp (upd f_this 6 y1) = u14 at k16 hP
        try dsimp only at hP
        refine r_callV (st := []) (o := ro) (as := []) (envc := [(tp, f_tp), (ro, (upd f_this 6 y1))]) (envc' := [(tp, f_tp), (ro, u14.2)]) (env' := [(tp, f_tp), (ro, u14.2)]) (rv := none) [0, 1] (hn _ _) rfl rfl (Nat.le_of_ble_eq_true rfl) hB.1 rfl rfl rfl k16 ?_
        show RB _ _ _ _ _ [] _ _
        refine r_goto ?_
        exact r_retv rfl (hPQ 0 u14.2 hP)
      · rw [if_neg c13] at hP
        have hO := hO.2 c13
        refine r_aload rfl ?_
        refine r_getr (q := tp) hB.1 hB.2.2.2.2.2.2.2.2.1 ?_
        refine r_iload rfl ?_
        obtain ⟨h17, hO⟩ := hO
        refine r_ald (x := f_tp ((y1 : Int32).toNatClampNeg)) 0 ((y1 : Int32).toNatClampNeg) (hn _ _) rfl hB.2.2.2.2.2.1 (by decide) (Or.inl rfl) h17 rfl rfl ?_
        have k29 := fun (Q' : Option Int32 → mMH → Prop) hq => tX5_isDigit (d := d + 1) (B := B) (v := mE v [(tp, f_tp), (ro, (upd f_this 6 y1))]) (w := w) (Q := Q') (f_tp ((y1 : Int32).toNatClampNeg)) hq
        generalize hg_u18 : FX5_isDigit (f_tp ((y1 : Int32).toNatClampNeg)) = u18 at k29 hP hO
        try dsimp only at hP hO
        refine r_callS (st := []) (as := [.int (f_tp ((y1 : Int32).toNatClampNeg))]) (envc := []) (envc' := []) (env' := [(tp, f_tp), (ro, (upd f_this 6 y1))]) (rv := some u18) [] (Or.inl rfl) (hn _ _) rfl rfl (Nat.le_of_ble_eq_true rfl) rfl rfl rfl k29 ?_
        show RB _ _ _ _ _ [.int u18] _ _
        refine r_if (fun c19 : u18 = 0 => ?_) (fun c19 : ¬ (u18 = 0) => ?_)
        · rw [if_pos c19] at hP
          have hO := hO.1 c19
          refine r_aload rfl ?_
          refine r_aload rfl ?_
          refine r_getr (q := tp) hB.1 hB.2.2.2.2.2.2.2.2.1 ?_
          refine r_iload rfl ?_
          obtain ⟨h20, hO⟩ := hO
          refine r_ald (x := f_tp ((y1 : Int32).toNatClampNeg)) 0 ((y1 : Int32).toNatClampNeg) (hn _ _) rfl hB.2.2.2.2.2.1 (by decide) (Or.inl rfl) h20 rfl rfl ?_
          refine r_int ?_
          refine r_icmp (fun c21 : (f_tp ((y1 : Int32).toNatClampNeg)) = 59 => ?_) (fun c21 : ¬ ((f_tp ((y1 : Int32).toNatClampNeg)) = 59) => ?_)
          · rw [if_pos c21] at hP
            have hO := hO.1 c21
            refine r_aload rfl ?_
            refine r_getr (q := tp) hB.1 hB.2.2.2.2.2.2.2.2.1 ?_
            refine r_iload rfl ?_
            have h22 := hO
            refine r_ald (x := f_tp ((y1 : Int32).toNatClampNeg)) 0 ((y1 : Int32).toNatClampNeg) (hn _ _) rfl hB.2.2.2.2.2.1 (by decide) (Or.inl rfl) h22 rfl rfl ?_
            refine r_goto ?_
            refine r_put (env' := [(tp, f_tp), (ro, (upd (upd f_this 6 y1) 5 (f_tp ((y1 : Int32).toNatClampNeg))))]) 1 (hn _ _) rfl rfl hB.1 ?_
            refine r_aload rfl ?_
            refine r_iload rfl ?_
            refine r_int ?_
            refine r_iadd ?_
            refine r_put (env' := [(tp, f_tp), (ro, (upd (upd (upd f_this 6 y1) 5 (f_tp ((y1 : Int32).toNatClampNeg))) 7 (y1 + 1)))]) 1 (hn _ _) rfl rfl hB.1 ?_
            refine r_fall ?_
            exact r_retv rfl (hPQ 0 (upd (upd (upd f_this 6 y1) 5 (f_tp ((y1 : Int32).toNatClampNeg))) 7 (y1 + 1)) hP)
          · rw [if_neg c21] at hP
            have hO := hO.2 c21
            refine r_aload rfl ?_
            refine r_getr (q := tp) hB.1 hB.2.2.2.2.2.2.2.2.1 ?_
            refine r_iload rfl ?_
            obtain ⟨h23, hO⟩ := hO
            refine r_ald (x := f_tp ((y1 : Int32).toNatClampNeg)) 0 ((y1 : Int32).toNatClampNeg) (hn _ _) rfl hB.2.2.2.2.2.1 (by decide) (Or.inl rfl) h23 rfl rfl ?_
            refine r_int ?_
            refine r_icmp1 (fun c24 : (f_tp ((y1 : Int32).toNatClampNeg)) = 58 => ?_) (fun c24 : ¬ ((f_tp ((y1 : Int32).toNatClampNeg)) = 58) => ?_)
            · rw [if_pos c24] at hP
              have hO := hO.1 c24
              refine r_fall ?_
              refine r_aload rfl ?_
              refine r_getr (q := tp) hB.1 hB.2.2.2.2.2.2.2.2.1 ?_
              refine r_iload rfl ?_
              have h25 := hO
              refine r_ald (x := f_tp ((y1 : Int32).toNatClampNeg)) 0 ((y1 : Int32).toNatClampNeg) (hn _ _) rfl hB.2.2.2.2.2.1 (by decide) (Or.inl rfl) h25 rfl rfl ?_
              refine r_goto ?_
              refine r_put (env' := [(tp, f_tp), (ro, (upd (upd f_this 6 y1) 5 (f_tp ((y1 : Int32).toNatClampNeg))))]) 1 (hn _ _) rfl rfl hB.1 ?_
              refine r_aload rfl ?_
              refine r_iload rfl ?_
              refine r_int ?_
              refine r_iadd ?_
              refine r_put (env' := [(tp, f_tp), (ro, (upd (upd (upd f_this 6 y1) 5 (f_tp ((y1 : Int32).toNatClampNeg))) 7 (y1 + 1)))]) 1 (hn _ _) rfl rfl hB.1 ?_
              refine r_fall ?_
              exact r_retv rfl (hPQ 0 (upd (upd (upd f_this 6 y1) 5 (f_tp ((y1 : Int32).toNatClampNeg))) 7 (y1 + 1)) hP)
            · rw [if_neg c24] at hP
              have hO := hO.2 c24
              refine r_int ?_
              refine r_fall ?_
              refine r_put (env' := [(tp, f_tp), (ro, (upd (upd f_this 6 y1) 5 1))]) 1 (hn _ _) rfl rfl hB.1 ?_
              refine r_aload rfl ?_
              refine r_iload rfl ?_
              refine r_int ?_
              refine r_iadd ?_
              refine r_put (env' := [(tp, f_tp), (ro, (upd (upd (upd f_this 6 y1) 5 1) 7 (y1 + 1)))]) 1 (hn _ _) rfl rfl hB.1 ?_
              refine r_fall ?_
              exact r_retv rfl (hPQ 0 (upd (upd (upd f_this 6 y1) 5 1) 7 (y1 + 1)) hP)
        · rw [if_neg c19] at hP
          have hO := hO.2 c19
          refine r_fall ?_
          refine r_aload rfl ?_
          have h27 := hO
          have k28 := fun (Q' : Option Int32 → mMH → Prop) hq => tX5_scanNumber (d := d + 0) (B := B) (v := mE v [(tp, f_tp), (ro, (upd f_this 6 y1))]) (w := w) (Q := Q') hB (by omega) (by omega) f_tp (upd f_this 6 y1) h27 hq
          generalize hg_u26 : FX5_scanNumber f_tp (upd f_this 6 y1) = u26 at k28 hP
          try dsimp only at hP
          refine r_callV (st := []) (o := ro) (as := []) (envc := [(tp, f_tp), (ro, (upd f_this 6 y1))]) (envc' := [(tp, f_tp), (ro, u26.2)]) (env' := [(tp, f_tp), (ro, u26.2)]) (rv := none) [0, 1] (hn _ _) rfl rfl (Nat.le_of_ble_eq_true rfl) hB.1 rfl rfl rfl k28 ?_
          show RB _ _ _ _ _ [] _ _
          refine r_goto ?_
          exact r_retv rfl (hPQ 0 u26.2 hP)
    · rw [if_neg c11] at hP
      have hO := hO.2 c11
      refine r_aload rfl ?_
      have h31 := hO
      have k32 := fun (Q' : Option Int32 → mMH → Prop) hq => tX5_scanWord (d := d + 0) (B := B) (v := mE v [(tp, f_tp), (ro, (upd f_this 6 y1))]) (w := w) (Q := Q') hB (by omega) (by omega) f_tp (upd f_this 6 y1) h31 hq
      generalize hg_u30 : FX5_scanWord f_tp (upd f_this 6 y1) = u30 at k32 hP
      try dsimp only at hP
      refine r_callV (st := []) (o := ro) (as := []) (envc := [(tp, f_tp), (ro, (upd f_this 6 y1))]) (envc' := [(tp, f_tp), (ro, u30.2)]) (env' := [(tp, f_tp), (ro, u30.2)]) (rv := none) [0, 1] (hn _ _) rfl rfl (Nat.le_of_ble_eq_true rfl) hB.1 rfl rfl rfl k32 ?_
      show RB _ _ _ _ _ [] _ _
      refine r_goto ?_
      exact r_retv rfl (hPQ 0 u30.2 hP)
  · rw [if_neg c8] at hP
    have hO := hO.2 c8
    refine r_aload rfl ?_
    refine r_int ?_
    refine r_put (env' := [(tp, f_tp), (ro, (upd (upd f_this 6 y1) 5 0))]) 1 (hn _ _) rfl rfl hB.1 ?_
    refine r_goto ?_
    exact r_retv rfl (hPQ 0 (upd (upd f_this 6 y1) 5 0) hP)
def FX5_scan (f_tp : mF) (f_this : mF) : Int32 × mF :=
  let u6 := FX5_scan_b1 10000 (f_this 7) f_tp f_this; FX5_scan_b3 u6 f_tp f_this
def OX5_scan (f_tp : mF) (f_this : mF) : Prop :=
  OX5_scan_b1 10000 (f_this 7) f_tp f_this ∧ (let u6 := FX5_scan_b1 10000 (f_this 7) f_tp f_this; OX5_scan_b3 u6 f_tp f_this)
set_option maxRecDepth 20000 in
theorem tX5_scan {d : Nat} {B : mB} {v : mV} {w : mX} {Q : Option Int32 → mMH → Prop} {ro tp pg : Nat} (hB : isRead B ro tp pg) (ht : tp < ro) (hpg : ro + 20 ≤ pg) (f_tp : mF) (f_this : mF) (hO : OX5_scan f_tp f_this) (hQ : Q (none) (mH B (mE v [(tp, f_tp), (ro, (FX5_scan f_tp f_this).2)]) w)) : CQ (d + 3) 84 [.ref ro] (mH B (mE v [(tp, f_tp), (ro, f_this)]) w) Q := by
  have hn : ∀ (f_tp : mF) (f_this : mF), mNd [(tp, f_tp), (ro, f_this)] := fun _ _ => by
    show List.Nodup _
    simp only [List.map_cons, List.map_nil, List.nodup_cons, List.mem_cons, List.not_mem_nil, or_false, not_or, not_false_eq_true, List.nodup_nil, and_true]
    omega
  obtain ⟨P, hPQ, hP⟩ : ∃ P : Int32 × mF → Prop, (∀ (q : Int32) (q0 : mF), P (q, q0) → Q (none) (mH B (mE v [(tp, f_tp), (ro, q0)]) w)) ∧ P (FX5_scan f_tp f_this) := ⟨fun res => Q (none) (mH B (mE v [(tp, f_tp), (ro, res.2)]) w), fun _ _ h => h, hQ⟩
  refine r_begin mt_84 (by intro a ha; simp only [List.mem_cons, List.not_mem_nil, or_false] at ha; rcases ha with rfl <;> rfl) (Nat.le_of_ble_eq_true rfl) ?_
  rw [FX5_scan] at hP
  rw [OX5_scan] at hO
  show RB _ _ _ _ [some (.ref ro), none] [] _ _
  refine r_aload rfl ?_
  refine r_get (x := f_this 7) 1 (hn _ _) rfl hB.1 (by decide) rfl ?_
  refine r_istore (L' := [some (.ref ro), some (.int (f_this 7))]) rfl rfl ?_
  refine r_fall ?_
  obtain ⟨h7, hO⟩ := hO
  generalize hg_u6 : FX5_scan_b1 10000 (f_this 7) f_tp f_this = u6 at hP hO
  try dsimp only at hP hO
  refine tX5_scan_b1 hB ht hpg (u := u6) (f_tp := f_tp) (f_this := f_this) ?_ 10000 (f_this 7) h7 hg_u6
  exact tX5_scan_b3 hB ht hpg hPQ u6 f_this hO hP

def FX5_name_b1 : Nat → Int32 → mF → mF → Int32
  | 0, _, _, _ => 0
  | n + 1, y1, f_this, f_names =>
    if 43 ≤ y1 then ((-1)) else (if (f_this 5) = 2 then (if (f_names ((y1 : Int32).toNatClampNeg)) = (f_this 8) then (y1) else (FX5_name_b1 n (y1 + 1) f_this f_names)) else ((-1)))
def OX5_name_b1 : Nat → Int32 → mF → mF → Prop
  | 0, _, _, _ => False
  | n + 1, y1, f_this, f_names =>
    (43 ≤ y1 → True) ∧ (¬ (43 ≤ y1) → (((f_this 5) = 2 → (vp_in y1 43 ∧ (((f_names ((y1 : Int32).toNatClampNeg)) = (f_this 8) → True) ∧ (¬ ((f_names ((y1 : Int32).toNatClampNeg)) = (f_this 8)) → (OX5_name_b1 n (y1 + 1) f_this f_names))))) ∧ (¬ ((f_this 5) = 2) → True)))
set_option maxRecDepth 20000 in
theorem tX5_name_b1 {d : Nat} {B : mB} {v : mV} {w : mX} {Q : Option Int32 → mMH → Prop} {ro tp pg : Nat} (hB : isRead B ro tp pg) (ht : tp < ro) (hpg : ro + 20 ≤ pg) {P : Int32 → Prop} {f_this : mF} {f_names : mF} (hPQ : ∀ (q : Int32), P q → Q (some q) (mH B (mE v [(ro, f_this), (ro + 1, f_names)]) w)) : ∀ (n : Nat) (y1 : Int32), OX5_name_b1 n y1 f_this f_names → P (FX5_name_b1 n y1 f_this f_names) → RJ (d + 0) kX5_name (some .int) 1 [some (.ref ro), some (.int y1)] [] (mH B (mE v [(ro, f_this), (ro + 1, f_names)]) w) Q := by
  intro n
  induction n with
  | zero => exact fun _ hO => hO.elim
  | succ n ih1 =>
    intro y1 hO hP
    rw [FX5_name_b1] at hP
    rw [OX5_name_b1] at hO
    have hn : ∀ (f_this : mF) (f_names : mF), mNd [(ro, f_this), (ro + 1, f_names)] := fun _ _ => by
      show List.Nodup _
      simp only [List.map_cons, List.map_nil, List.nodup_cons, List.mem_cons, List.not_mem_nil, or_false, not_or, not_false_eq_true, List.nodup_nil, and_true]
      omega
    show RB _ _ _ _ [some (.ref ro), some (.int y1)] [] _ _
    refine r_iload rfl ?_
    refine r_int ?_
    refine r_icmp (fun c1 : 43 ≤ y1 => ?_) (fun c1 : ¬ (43 ≤ y1) => ?_)
    · rw [if_pos c1] at hP
      have hO := hO.1 c1
      refine r_int ?_
      exact r_ret rfl rfl (hPQ (-1) hP)
    · rw [if_neg c1] at hP
      have hO := hO.2 c1
      refine r_aload rfl ?_
      refine r_get (x := f_this 5) 0 (hn _ _) rfl hB.1 (by decide) rfl ?_
      refine r_int ?_
      refine r_icmp1 (fun c2 : (f_this 5) = 2 => ?_) (fun c2 : ¬ ((f_this 5) = 2) => ?_)
      · rw [if_pos c2] at hP
        have hO := hO.1 c2
        refine r_aload rfl ?_
        refine r_getr (q := ro + 1) hB.1 hB.2.2.2.2.2.2.2.1 ?_
        refine r_iload rfl ?_
        obtain ⟨h3, hO⟩ := hO
        refine r_ald (x := f_names ((y1 : Int32).toNatClampNeg)) 1 ((y1 : Int32).toNatClampNeg) (hn _ _) rfl hB.2.1 (by decide) rfl h3 rfl rfl ?_
        refine r_aload rfl ?_
        refine r_get (x := f_this 8) 0 (hn _ _) rfl hB.1 (by decide) rfl ?_
        refine r_icmp1 (fun c4 : (f_names ((y1 : Int32).toNatClampNeg)) = (f_this 8) => ?_) (fun c4 : ¬ ((f_names ((y1 : Int32).toNatClampNeg)) = (f_this 8)) => ?_)
        · rw [if_pos c4] at hP
          have hO := hO.1 c4
          refine r_iload rfl ?_
          exact r_ret rfl rfl (hPQ y1 hP)
        · rw [if_neg c4] at hP
          have hO := hO.2 c4
          refine r_iinc (L' := [some (.ref ro), some (.int (y1 + 1))]) rfl rfl rfl ?_
          refine r_goto ?_
          exact ih1 (y1 + 1) hO hP
      · rw [if_neg c2] at hP
        have hO := hO.2 c2
        refine r_int ?_
        exact r_ret rfl rfl (hPQ (-1) hP)
def FX5_name (f_this : mF) (f_names : mF) : Int32 :=
  FX5_name_b1 10000 0 f_this f_names
def OX5_name (f_this : mF) (f_names : mF) : Prop :=
  OX5_name_b1 10000 0 f_this f_names
set_option maxRecDepth 20000 in
theorem tX5_name {d : Nat} {B : mB} {v : mV} {w : mX} {Q : Option Int32 → mMH → Prop} {ro tp pg : Nat} (hB : isRead B ro tp pg) (ht : tp < ro) (hpg : ro + 20 ≤ pg) (f_this : mF) (f_names : mF) (hO : OX5_name f_this f_names) (hQ : Q (some (FX5_name f_this f_names)) (mH B (mE v [(ro, f_this), (ro + 1, f_names)]) w)) : CQ (d + 1) 89 [.ref ro] (mH B (mE v [(ro, f_this), (ro + 1, f_names)]) w) Q := by
  have hn : ∀ (f_this : mF) (f_names : mF), mNd [(ro, f_this), (ro + 1, f_names)] := fun _ _ => by
    show List.Nodup _
    simp only [List.map_cons, List.map_nil, List.nodup_cons, List.mem_cons, List.not_mem_nil, or_false, not_or, not_false_eq_true, List.nodup_nil, and_true]
    omega
  obtain ⟨P, hPQ, hP⟩ : ∃ P : Int32 → Prop, (∀ (q : Int32), P q → Q (some q) (mH B (mE v [(ro, f_this), (ro + 1, f_names)]) w)) ∧ P (FX5_name f_this f_names) := ⟨fun res => Q (some res) (mH B (mE v [(ro, f_this), (ro + 1, f_names)]) w), fun _ h => h, hQ⟩
  refine r_begin mt_89 (by intro a ha; simp only [List.mem_cons, List.not_mem_nil, or_false] at ha; rcases ha with rfl <;> rfl) (Nat.le_of_ble_eq_true rfl) ?_
  rw [FX5_name] at hP
  rw [OX5_name] at hO
  show RB _ _ _ _ [some (.ref ro), none] [] _ _
  refine r_int ?_
  refine r_istore (L' := [some (.ref ro), some (.int 0)]) rfl rfl ?_
  refine r_fall ?_
  exact tX5_name_b1 hB ht hpg hPQ 10000 0 hO hP

def FX5_takeSign (x1 : Int32) (f_tp : mF) (f_this : mF) : Int32 × mF :=
  if (f_this 5) = x1 then (if (f_this 9) = (-1) then (let u3 := FX5_scan f_tp f_this; (0, u3.2)) else ((0, f_this))) else (let u6 := FX5_fail (f_this 6) 1 f_this; if (u6.2 9) = (-1) then (let u8 := FX5_scan f_tp u6.2; (0, u8.2)) else ((0, u6.2)))
def OX5_takeSign (x1 : Int32) (f_tp : mF) (f_this : mF) : Prop :=
  ((f_this 5) = x1 → (((f_this 9) = (-1) → (OX5_scan f_tp f_this)) ∧ (¬ ((f_this 9) = (-1)) → True))) ∧ (¬ ((f_this 5) = x1) → ((let u6 := FX5_fail (f_this 6) 1 f_this; ((u6.2 9) = (-1) → (OX5_scan f_tp u6.2)) ∧ (¬ ((u6.2 9) = (-1)) → True))))
set_option maxRecDepth 20000 in
theorem tX5_takeSign {d : Nat} {B : mB} {v : mV} {w : mX} {Q : Option Int32 → mMH → Prop} {ro tp pg : Nat} (hB : isRead B ro tp pg) (ht : tp < ro) (hpg : ro + 20 ≤ pg) (x1 : Int32) (f_tp : mF) (f_this : mF) (hO : OX5_takeSign x1 f_tp f_this) (hQ : Q (none) (mH B (mE v [(tp, f_tp), (ro, (FX5_takeSign x1 f_tp f_this).2)]) w)) : CQ (d + 4) 97 [.ref ro, .int x1] (mH B (mE v [(tp, f_tp), (ro, f_this)]) w) Q := by
  have hn : ∀ (f_tp : mF) (f_this : mF), mNd [(tp, f_tp), (ro, f_this)] := fun _ _ => by
    show List.Nodup _
    simp only [List.map_cons, List.map_nil, List.nodup_cons, List.mem_cons, List.not_mem_nil, or_false, not_or, not_false_eq_true, List.nodup_nil, and_true]
    omega
  obtain ⟨P, hPQ, hP⟩ : ∃ P : Int32 × mF → Prop, (∀ (q : Int32) (q0 : mF), P (q, q0) → Q (none) (mH B (mE v [(tp, f_tp), (ro, q0)]) w)) ∧ P (FX5_takeSign x1 f_tp f_this) := ⟨fun res => Q (none) (mH B (mE v [(tp, f_tp), (ro, res.2)]) w), fun _ _ h => h, hQ⟩
  refine r_begin mt_97 (by intro a ha; simp only [List.mem_cons, List.not_mem_nil, or_false] at ha; rcases ha with rfl | rfl <;> rfl) (Nat.le_of_ble_eq_true rfl) ?_
  rw [FX5_takeSign] at hP
  rw [OX5_takeSign] at hO
  show RB _ _ _ _ [some (.ref ro), some (.int x1)] [] _ _
  refine r_aload rfl ?_
  refine r_get (x := f_this 5) 1 (hn _ _) rfl hB.1 (by decide) rfl ?_
  refine r_iload rfl ?_
  refine r_icmp (fun c1 : (f_this 5) = x1 => ?_) (fun c1 : ¬ ((f_this 5) = x1) => ?_)
  · rw [if_pos c1] at hP
    have hO := hO.1 c1
    refine r_aload rfl ?_
    refine r_get (x := f_this 9) 1 (hn _ _) rfl hB.1 (by decide) rfl ?_
    refine r_int ?_
    refine r_icmp1 (fun c2 : (f_this 9) = (-1) => ?_) (fun c2 : ¬ ((f_this 9) = (-1)) => ?_)
    · rw [if_pos c2] at hP
      have hO := hO.1 c2
      refine r_aload rfl ?_
      have h4 := hO
      have k5 := fun (Q' : Option Int32 → mMH → Prop) hq => tX5_scan (d := d + 0) (B := B) (v := mE v [(tp, f_tp), (ro, f_this)]) (w := w) (Q := Q') hB (by omega) (by omega) f_tp f_this h4 hq
      generalize hg_u3 : FX5_scan f_tp f_this = u3 at k5 hP
      try dsimp only at hP
      refine r_callV (st := []) (o := ro) (as := []) (envc := [(tp, f_tp), (ro, f_this)]) (envc' := [(tp, f_tp), (ro, u3.2)]) (env' := [(tp, f_tp), (ro, u3.2)]) (rv := none) [0, 1] (hn _ _) rfl rfl (Nat.le_of_ble_eq_true rfl) hB.1 rfl rfl rfl k5 ?_
      show RB _ _ _ _ _ [] _ _
      refine r_fall ?_
      exact r_retv rfl (hPQ 0 u3.2 hP)
    · rw [if_neg c2] at hP
      have hO := hO.2 c2
      exact r_retv rfl (hPQ 0 f_this hP)
  · rw [if_neg c1] at hP
    have hO := hO.2 c1
    refine r_aload rfl ?_
    refine r_aload rfl ?_
    refine r_get (x := f_this 6) 1 (hn _ _) rfl hB.1 (by decide) rfl ?_
    refine r_int ?_
    have k11 := fun (Q' : Option Int32 → mMH → Prop) hq => tX5_fail (d := d + 2) (B := B) (v := mE v [(tp, f_tp), (ro, f_this)]) (w := w) (Q := Q') hB (by omega) (by omega) (f_this 6) 1 f_this hq
    generalize hg_u6 : FX5_fail (f_this 6) 1 f_this = u6 at k11 hP hO
    try dsimp only at hP hO
    refine r_callV (st := []) (o := ro) (as := [.int (f_this 6), .int 1]) (envc := [(ro, f_this)]) (envc' := [(ro, u6.2)]) (env' := [(tp, f_tp), (ro, u6.2)]) (rv := none) [1] (hn _ _) rfl rfl (Nat.le_of_ble_eq_true rfl) hB.1 rfl rfl rfl k11 ?_
    show RB _ _ _ _ _ [] _ _
    refine r_fall ?_
    refine r_aload rfl ?_
    refine r_get (x := u6.2 9) 1 (hn _ _) rfl hB.1 (by decide) rfl ?_
    refine r_int ?_
    refine r_icmp1 (fun c7 : (u6.2 9) = (-1) => ?_) (fun c7 : ¬ ((u6.2 9) = (-1)) => ?_)
    · rw [if_pos c7] at hP
      have hO := hO.1 c7
      refine r_aload rfl ?_
      have h9 := hO
      have k10 := fun (Q' : Option Int32 → mMH → Prop) hq => tX5_scan (d := d + 0) (B := B) (v := mE v [(tp, f_tp), (ro, u6.2)]) (w := w) (Q := Q') hB (by omega) (by omega) f_tp u6.2 h9 hq
      generalize hg_u8 : FX5_scan f_tp u6.2 = u8 at k10 hP
      try dsimp only at hP
      refine r_callV (st := []) (o := ro) (as := []) (envc := [(tp, f_tp), (ro, u6.2)]) (envc' := [(tp, f_tp), (ro, u8.2)]) (env' := [(tp, f_tp), (ro, u8.2)]) (rv := none) [0, 1] (hn _ _) rfl rfl (Nat.le_of_ble_eq_true rfl) hB.1 rfl rfl rfl k10 ?_
      show RB _ _ _ _ _ [] _ _
      refine r_fall ?_
      exact r_retv rfl (hPQ 0 u8.2 hP)
    · rw [if_neg c7] at hP
      have hO := hO.2 c7
      exact r_retv rfl (hPQ 0 u6.2 hP)

def FX5_takeNumber (x1 : Int32) (x2 : Int32) (f_tp : mF) (f_this : mF) : Int32 × mF :=
  if (f_this 5) = 3 then (if (f_this 8) < x1 then (let u3 := FX5_fail (f_this 6) 3 f_this; if (u3.2 9) = (-1) then (let u5 := FX5_scan f_tp u3.2; ((u3.2 8), u5.2)) else ((x1, u3.2))) else (if (f_this 8) ≤ x2 then (if (f_this 9) = (-1) then (let u11 := FX5_scan f_tp f_this; ((f_this 8), u11.2)) else ((x1, f_this))) else (let u14 := FX5_fail (f_this 6) 3 f_this; if (u14.2 9) = (-1) then (let u16 := FX5_scan f_tp u14.2; ((u14.2 8), u16.2)) else ((x1, u14.2))))) else (let u20 := FX5_fail (f_this 6) 1 f_this; if (u20.2 9) = (-1) then (let u22 := FX5_scan f_tp u20.2; ((u20.2 8), u22.2)) else ((x1, u20.2)))
def OX5_takeNumber (x1 : Int32) (x2 : Int32) (f_tp : mF) (f_this : mF) : Prop :=
  ((f_this 5) = 3 → (((f_this 8) < x1 → ((let u3 := FX5_fail (f_this 6) 3 f_this; ((u3.2 9) = (-1) → (OX5_scan f_tp u3.2)) ∧ (¬ ((u3.2 9) = (-1)) → True)))) ∧ (¬ ((f_this 8) < x1) → (((f_this 8) ≤ x2 → (((f_this 9) = (-1) → (OX5_scan f_tp f_this)) ∧ (¬ ((f_this 9) = (-1)) → True))) ∧ (¬ ((f_this 8) ≤ x2) → ((let u14 := FX5_fail (f_this 6) 3 f_this; ((u14.2 9) = (-1) → (OX5_scan f_tp u14.2)) ∧ (¬ ((u14.2 9) = (-1)) → True)))))))) ∧ (¬ ((f_this 5) = 3) → ((let u20 := FX5_fail (f_this 6) 1 f_this; ((u20.2 9) = (-1) → (OX5_scan f_tp u20.2)) ∧ (¬ ((u20.2 9) = (-1)) → True))))
set_option maxRecDepth 20000 in
theorem tX5_takeNumber {d : Nat} {B : mB} {v : mV} {w : mX} {Q : Option Int32 → mMH → Prop} {ro tp pg : Nat} (hB : isRead B ro tp pg) (ht : tp < ro) (hpg : ro + 20 ≤ pg) (x1 : Int32) (x2 : Int32) (f_tp : mF) (f_this : mF) (hO : OX5_takeNumber x1 x2 f_tp f_this) (hQ : Q (some ((FX5_takeNumber x1 x2 f_tp f_this).1)) (mH B (mE v [(tp, f_tp), (ro, (FX5_takeNumber x1 x2 f_tp f_this).2)]) w)) : CQ (d + 4) 98 [.ref ro, .int x1, .int x2] (mH B (mE v [(tp, f_tp), (ro, f_this)]) w) Q := by
  have hn : ∀ (f_tp : mF) (f_this : mF), mNd [(tp, f_tp), (ro, f_this)] := fun _ _ => by
    show List.Nodup _
    simp only [List.map_cons, List.map_nil, List.nodup_cons, List.mem_cons, List.not_mem_nil, or_false, not_or, not_false_eq_true, List.nodup_nil, and_true]
    omega
  obtain ⟨P, hPQ, hP⟩ : ∃ P : Int32 × mF → Prop, (∀ (q : Int32) (q0 : mF), P (q, q0) → Q (some q) (mH B (mE v [(tp, f_tp), (ro, q0)]) w)) ∧ P (FX5_takeNumber x1 x2 f_tp f_this) := ⟨fun res => Q (some res.1) (mH B (mE v [(tp, f_tp), (ro, res.2)]) w), fun _ _ h => h, hQ⟩
  refine r_begin mt_98 (by intro a ha; simp only [List.mem_cons, List.not_mem_nil, or_false] at ha; rcases ha with rfl | rfl | rfl <;> rfl) (Nat.le_of_ble_eq_true rfl) ?_
  rw [FX5_takeNumber] at hP
  rw [OX5_takeNumber] at hO
  show RB _ _ _ _ [some (.ref ro), some (.int x1), some (.int x2), none] [] _ _
  refine r_aload rfl ?_
  refine r_get (x := f_this 5) 1 (hn _ _) rfl hB.1 (by decide) rfl ?_
  refine r_int ?_
  refine r_icmp (fun c1 : (f_this 5) = 3 => ?_) (fun c1 : ¬ ((f_this 5) = 3) => ?_)
  · rw [if_pos c1] at hP
    have hO := hO.1 c1
    refine r_aload rfl ?_
    refine r_get (x := f_this 8) 1 (hn _ _) rfl hB.1 (by decide) rfl ?_
    refine r_iload rfl ?_
    refine r_icmp (fun c2 : (f_this 8) < x1 => ?_) (fun c2 : ¬ ((f_this 8) < x1) => ?_)
    · rw [if_pos c2] at hP
      have hO := hO.1 c2
      refine r_aload rfl ?_
      refine r_aload rfl ?_
      refine r_get (x := f_this 6) 1 (hn _ _) rfl hB.1 (by decide) rfl ?_
      refine r_int ?_
      have k8 := fun (Q' : Option Int32 → mMH → Prop) hq => tX5_fail (d := d + 2) (B := B) (v := mE v [(tp, f_tp), (ro, f_this)]) (w := w) (Q := Q') hB (by omega) (by omega) (f_this 6) 3 f_this hq
      generalize hg_u3 : FX5_fail (f_this 6) 3 f_this = u3 at k8 hP hO
      try dsimp only at hP hO
      refine r_callV (st := []) (o := ro) (as := [.int (f_this 6), .int 3]) (envc := [(ro, f_this)]) (envc' := [(ro, u3.2)]) (env' := [(tp, f_tp), (ro, u3.2)]) (rv := none) [1] (hn _ _) rfl rfl (Nat.le_of_ble_eq_true rfl) hB.1 rfl rfl rfl k8 ?_
      show RB _ _ _ _ _ [] _ _
      refine r_fall ?_
      refine r_aload rfl ?_
      refine r_get (x := u3.2 9) 1 (hn _ _) rfl hB.1 (by decide) rfl ?_
      refine r_int ?_
      refine r_icmp (fun c4 : (u3.2 9) = (-1) => ?_) (fun c4 : ¬ ((u3.2 9) = (-1)) => ?_)
      · rw [if_pos c4] at hP
        have hO := hO.1 c4
        refine r_aload rfl ?_
        refine r_get (x := u3.2 8) 1 (hn _ _) rfl hB.1 (by decide) rfl ?_
        refine r_istore (L' := [some (.ref ro), some (.int x1), some (.int x2), some (.int (u3.2 8))]) rfl rfl ?_
        refine r_aload rfl ?_
        have h6 := hO
        have k7 := fun (Q' : Option Int32 → mMH → Prop) hq => tX5_scan (d := d + 0) (B := B) (v := mE v [(tp, f_tp), (ro, u3.2)]) (w := w) (Q := Q') hB (by omega) (by omega) f_tp u3.2 h6 hq
        generalize hg_u5 : FX5_scan f_tp u3.2 = u5 at k7 hP
        try dsimp only at hP
        refine r_callV (st := []) (o := ro) (as := []) (envc := [(tp, f_tp), (ro, u3.2)]) (envc' := [(tp, f_tp), (ro, u5.2)]) (env' := [(tp, f_tp), (ro, u5.2)]) (rv := none) [0, 1] (hn _ _) rfl rfl (Nat.le_of_ble_eq_true rfl) hB.1 rfl rfl rfl k7 ?_
        show RB _ _ _ _ _ [] _ _
        refine r_iload rfl ?_
        exact r_ret rfl rfl (hPQ (u3.2 8) u5.2 hP)
      · rw [if_neg c4] at hP
        have hO := hO.2 c4
        refine r_iload rfl ?_
        exact r_ret rfl rfl (hPQ x1 u3.2 hP)
    · rw [if_neg c2] at hP
      have hO := hO.2 c2
      refine r_aload rfl ?_
      refine r_get (x := f_this 8) 1 (hn _ _) rfl hB.1 (by decide) rfl ?_
      refine r_iload rfl ?_
      refine r_icmp (fun c9 : (f_this 8) ≤ x2 => ?_) (fun c9 : ¬ ((f_this 8) ≤ x2) => ?_)
      · rw [if_pos c9] at hP
        have hO := hO.1 c9
        refine r_aload rfl ?_
        refine r_get (x := f_this 9) 1 (hn _ _) rfl hB.1 (by decide) rfl ?_
        refine r_int ?_
        refine r_icmp (fun c10 : (f_this 9) = (-1) => ?_) (fun c10 : ¬ ((f_this 9) = (-1)) => ?_)
        · rw [if_pos c10] at hP
          have hO := hO.1 c10
          refine r_aload rfl ?_
          refine r_get (x := f_this 8) 1 (hn _ _) rfl hB.1 (by decide) rfl ?_
          refine r_istore (L' := [some (.ref ro), some (.int x1), some (.int x2), some (.int (f_this 8))]) rfl rfl ?_
          refine r_aload rfl ?_
          have h12 := hO
          have k13 := fun (Q' : Option Int32 → mMH → Prop) hq => tX5_scan (d := d + 0) (B := B) (v := mE v [(tp, f_tp), (ro, f_this)]) (w := w) (Q := Q') hB (by omega) (by omega) f_tp f_this h12 hq
          generalize hg_u11 : FX5_scan f_tp f_this = u11 at k13 hP
          try dsimp only at hP
          refine r_callV (st := []) (o := ro) (as := []) (envc := [(tp, f_tp), (ro, f_this)]) (envc' := [(tp, f_tp), (ro, u11.2)]) (env' := [(tp, f_tp), (ro, u11.2)]) (rv := none) [0, 1] (hn _ _) rfl rfl (Nat.le_of_ble_eq_true rfl) hB.1 rfl rfl rfl k13 ?_
          show RB _ _ _ _ _ [] _ _
          refine r_iload rfl ?_
          exact r_ret rfl rfl (hPQ (f_this 8) u11.2 hP)
        · rw [if_neg c10] at hP
          have hO := hO.2 c10
          refine r_iload rfl ?_
          exact r_ret rfl rfl (hPQ x1 f_this hP)
      · rw [if_neg c9] at hP
        have hO := hO.2 c9
        refine r_fall ?_
        refine r_aload rfl ?_
        refine r_aload rfl ?_
        refine r_get (x := f_this 6) 1 (hn _ _) rfl hB.1 (by decide) rfl ?_
        refine r_int ?_
        have k19 := fun (Q' : Option Int32 → mMH → Prop) hq => tX5_fail (d := d + 2) (B := B) (v := mE v [(tp, f_tp), (ro, f_this)]) (w := w) (Q := Q') hB (by omega) (by omega) (f_this 6) 3 f_this hq
        generalize hg_u14 : FX5_fail (f_this 6) 3 f_this = u14 at k19 hP hO
        try dsimp only at hP hO
        refine r_callV (st := []) (o := ro) (as := [.int (f_this 6), .int 3]) (envc := [(ro, f_this)]) (envc' := [(ro, u14.2)]) (env' := [(tp, f_tp), (ro, u14.2)]) (rv := none) [1] (hn _ _) rfl rfl (Nat.le_of_ble_eq_true rfl) hB.1 rfl rfl rfl k19 ?_
        show RB _ _ _ _ _ [] _ _
        refine r_fall ?_
        refine r_aload rfl ?_
        refine r_get (x := u14.2 9) 1 (hn _ _) rfl hB.1 (by decide) rfl ?_
        refine r_int ?_
        refine r_icmp (fun c15 : (u14.2 9) = (-1) => ?_) (fun c15 : ¬ ((u14.2 9) = (-1)) => ?_)
        · rw [if_pos c15] at hP
          have hO := hO.1 c15
          refine r_aload rfl ?_
          refine r_get (x := u14.2 8) 1 (hn _ _) rfl hB.1 (by decide) rfl ?_
          refine r_istore (L' := [some (.ref ro), some (.int x1), some (.int x2), some (.int (u14.2 8))]) rfl rfl ?_
          refine r_aload rfl ?_
          have h17 := hO
          have k18 := fun (Q' : Option Int32 → mMH → Prop) hq => tX5_scan (d := d + 0) (B := B) (v := mE v [(tp, f_tp), (ro, u14.2)]) (w := w) (Q := Q') hB (by omega) (by omega) f_tp u14.2 h17 hq
          generalize hg_u16 : FX5_scan f_tp u14.2 = u16 at k18 hP
          try dsimp only at hP
          refine r_callV (st := []) (o := ro) (as := []) (envc := [(tp, f_tp), (ro, u14.2)]) (envc' := [(tp, f_tp), (ro, u16.2)]) (env' := [(tp, f_tp), (ro, u16.2)]) (rv := none) [0, 1] (hn _ _) rfl rfl (Nat.le_of_ble_eq_true rfl) hB.1 rfl rfl rfl k18 ?_
          show RB _ _ _ _ _ [] _ _
          refine r_iload rfl ?_
          exact r_ret rfl rfl (hPQ (u14.2 8) u16.2 hP)
        · rw [if_neg c15] at hP
          have hO := hO.2 c15
          refine r_iload rfl ?_
          exact r_ret rfl rfl (hPQ x1 u14.2 hP)
  · rw [if_neg c1] at hP
    have hO := hO.2 c1
    refine r_aload rfl ?_
    refine r_aload rfl ?_
    refine r_get (x := f_this 6) 1 (hn _ _) rfl hB.1 (by decide) rfl ?_
    refine r_int ?_
    have k25 := fun (Q' : Option Int32 → mMH → Prop) hq => tX5_fail (d := d + 2) (B := B) (v := mE v [(tp, f_tp), (ro, f_this)]) (w := w) (Q := Q') hB (by omega) (by omega) (f_this 6) 1 f_this hq
    generalize hg_u20 : FX5_fail (f_this 6) 1 f_this = u20 at k25 hP hO
    try dsimp only at hP hO
    refine r_callV (st := []) (o := ro) (as := [.int (f_this 6), .int 1]) (envc := [(ro, f_this)]) (envc' := [(ro, u20.2)]) (env' := [(tp, f_tp), (ro, u20.2)]) (rv := none) [1] (hn _ _) rfl rfl (Nat.le_of_ble_eq_true rfl) hB.1 rfl rfl rfl k25 ?_
    show RB _ _ _ _ _ [] _ _
    refine r_goto ?_
    refine r_aload rfl ?_
    refine r_get (x := u20.2 9) 1 (hn _ _) rfl hB.1 (by decide) rfl ?_
    refine r_int ?_
    refine r_icmp (fun c21 : (u20.2 9) = (-1) => ?_) (fun c21 : ¬ ((u20.2 9) = (-1)) => ?_)
    · rw [if_pos c21] at hP
      have hO := hO.1 c21
      refine r_aload rfl ?_
      refine r_get (x := u20.2 8) 1 (hn _ _) rfl hB.1 (by decide) rfl ?_
      refine r_istore (L' := [some (.ref ro), some (.int x1), some (.int x2), some (.int (u20.2 8))]) rfl rfl ?_
      refine r_aload rfl ?_
      have h23 := hO
      have k24 := fun (Q' : Option Int32 → mMH → Prop) hq => tX5_scan (d := d + 0) (B := B) (v := mE v [(tp, f_tp), (ro, u20.2)]) (w := w) (Q := Q') hB (by omega) (by omega) f_tp u20.2 h23 hq
      generalize hg_u22 : FX5_scan f_tp u20.2 = u22 at k24 hP
      try dsimp only at hP
      refine r_callV (st := []) (o := ro) (as := []) (envc := [(tp, f_tp), (ro, u20.2)]) (envc' := [(tp, f_tp), (ro, u22.2)]) (env' := [(tp, f_tp), (ro, u22.2)]) (rv := none) [0, 1] (hn _ _) rfl rfl (Nat.le_of_ble_eq_true rfl) hB.1 rfl rfl rfl k24 ?_
      show RB _ _ _ _ _ [] _ _
      refine r_iload rfl ?_
      exact r_ret rfl rfl (hPQ (u20.2 8) u22.2 hP)
    · rw [if_neg c21] at hP
      have hO := hO.2 c21
      refine r_iload rfl ?_
      exact r_ret rfl rfl (hPQ x1 u20.2 hP)

def FX5_takeUse_b1 (y1 : Int32) (f_tp : mF) (f_this : mF) (f_names : mF) (f_useName : mF) (f_usePlace : mF) (f_user : mF) : Int32 × mF × mF × mF × mF :=
  let u16 := FX5_fail (f_this 6) 1 f_this; if (u16.2 9) = (-1) then (if 112 ≤ (u16.2 10) then ((0, u16.2, f_useName, f_usePlace, f_user)) else (let g20 := upd f_useName ((u16.2 10 : Int32).toNatClampNeg) (u16.2 8); let g22 := upd f_usePlace ((u16.2 10 : Int32).toNatClampNeg) (u16.2 6); let g24 := upd f_user ((u16.2 10 : Int32).toNatClampNeg) y1; let u25 := FX5_scan f_tp (upd u16.2 10 ((u16.2 10) + 1)); (0, u25.2, g20, g22, g24))) else ((0, u16.2, f_useName, f_usePlace, f_user))
def OX5_takeUse_b1 (y1 : Int32) (f_tp : mF) (f_this : mF) (f_names : mF) (f_useName : mF) (f_usePlace : mF) (f_user : mF) : Prop :=
  (let u16 := FX5_fail (f_this 6) 1 f_this; ((u16.2 9) = (-1) → ((112 ≤ (u16.2 10) → True) ∧ (¬ (112 ≤ (u16.2 10)) → (vp_in (u16.2 10) 112 ∧ (let g20 := upd f_useName ((u16.2 10 : Int32).toNatClampNeg) (u16.2 8); vp_in (u16.2 10) 112 ∧ (let g22 := upd f_usePlace ((u16.2 10 : Int32).toNatClampNeg) (u16.2 6); vp_in (u16.2 10) 112 ∧ (let g24 := upd f_user ((u16.2 10 : Int32).toNatClampNeg) y1; OX5_scan f_tp (upd u16.2 10 ((u16.2 10) + 1))))))))) ∧ (¬ ((u16.2 9) = (-1)) → True))
set_option maxRecDepth 20000 in
theorem tX5_takeUse_b1 {d : Nat} {B : mB} {v : mV} {w : mX} {Q : Option Int32 → mMH → Prop} {ro tp pg : Nat} (hB : isRead B ro tp pg) (ht : tp < ro) (hpg : ro + 20 ≤ pg) {P : Int32 × mF × mF × mF × mF → Prop} {f_tp : mF} {f_names : mF} (hPQ : ∀ (q : Int32) (q0 : mF) (q1 : mF) (q2 : mF) (q3 : mF), P (q, q0, q1, q2, q3) → Q (none) (mH B (mE v [(tp, f_tp), (ro, q0), (ro + 1, f_names), (ro + 17, q1), (ro + 18, q2), (ro + 19, q3)]) w)) : ∀ (y1 : Int32) (f_this : mF) (f_useName : mF) (f_usePlace : mF) (f_user : mF), OX5_takeUse_b1 y1 f_tp f_this f_names f_useName f_usePlace f_user → P (FX5_takeUse_b1 y1 f_tp f_this f_names f_useName f_usePlace f_user) → RJ (d + 3) kX5_takeUse (none) 1 [some (.ref ro), some (.int y1)] [] (mH B (mE v [(tp, f_tp), (ro, f_this), (ro + 1, f_names), (ro + 17, f_useName), (ro + 18, f_usePlace), (ro + 19, f_user)]) w) Q := by
  intro y1 f_this f_useName f_usePlace f_user hO hP
  rw [FX5_takeUse_b1] at hP
  rw [OX5_takeUse_b1] at hO
  have hn : ∀ (f_tp : mF) (f_this : mF) (f_names : mF) (f_useName : mF) (f_usePlace : mF) (f_user : mF), mNd [(tp, f_tp), (ro, f_this), (ro + 1, f_names), (ro + 17, f_useName), (ro + 18, f_usePlace), (ro + 19, f_user)] := fun _ _ _ _ _ _ => by
    show List.Nodup _
    simp only [List.map_cons, List.map_nil, List.nodup_cons, List.mem_cons, List.not_mem_nil, or_false, not_or, not_false_eq_true, List.nodup_nil, and_true]
    omega
  show RB _ _ _ _ [some (.ref ro), some (.int y1)] [] _ _
  refine r_aload rfl ?_
  refine r_aload rfl ?_
  refine r_get (x := f_this 6) 1 (hn _ _ _ _ _ _) rfl hB.1 (by decide) rfl ?_
  refine r_int ?_
  have k28 := fun (Q' : Option Int32 → mMH → Prop) hq => tX5_fail (d := d + 2) (B := B) (v := mE v [(tp, f_tp), (ro, f_this), (ro + 1, f_names), (ro + 17, f_useName), (ro + 18, f_usePlace), (ro + 19, f_user)]) (w := w) (Q := Q') hB (by omega) (by omega) (f_this 6) 1 f_this hq
  generalize hg_u16 : FX5_fail (f_this 6) 1 f_this = u16 at k28 hP hO
  try dsimp only at hP hO
  refine r_callV (st := []) (o := ro) (as := [.int (f_this 6), .int 1]) (envc := [(ro, f_this)]) (envc' := [(ro, u16.2)]) (env' := [(tp, f_tp), (ro, u16.2), (ro + 1, f_names), (ro + 17, f_useName), (ro + 18, f_usePlace), (ro + 19, f_user)]) (rv := none) [1] (hn _ _ _ _ _ _) rfl rfl (Nat.le_of_ble_eq_true rfl) hB.1 rfl rfl rfl k28 ?_
  show RB _ _ _ _ _ [] _ _
  refine r_fall ?_
  refine r_aload rfl ?_
  refine r_get (x := u16.2 9) 1 (hn _ _ _ _ _ _) rfl hB.1 (by decide) rfl ?_
  refine r_int ?_
  refine r_icmp1 (fun c17 : (u16.2 9) = (-1) => ?_) (fun c17 : ¬ ((u16.2 9) = (-1)) => ?_)
  · rw [if_pos c17] at hP
    have hO := hO.1 c17
    refine r_aload rfl ?_
    refine r_get (x := u16.2 10) 1 (hn _ _ _ _ _ _) rfl hB.1 (by decide) rfl ?_
    refine r_int ?_
    refine r_icmp (fun c18 : 112 ≤ (u16.2 10) => ?_) (fun c18 : ¬ (112 ≤ (u16.2 10)) => ?_)
    · rw [if_pos c18] at hP
      have hO := hO.1 c18
      exact r_retv rfl (hPQ 0 u16.2 f_useName f_usePlace f_user hP)
    · rw [if_neg c18] at hP
      have hO := hO.2 c18
      refine r_aload rfl ?_
      refine r_getr (q := ro + 17) hB.1 hB.2.2.2.2.2.2.2.2.2.2.1 ?_
      refine r_aload rfl ?_
      refine r_get (x := u16.2 10) 1 (hn _ _ _ _ _ _) rfl hB.1 (by decide) rfl ?_
      refine r_aload rfl ?_
      refine r_get (x := u16.2 8) 1 (hn _ _ _ _ _ _) rfl hB.1 (by decide) rfl ?_
      obtain ⟨h19, hO⟩ := hO
      refine r_ast (y := u16.2 8) (env' := [(tp, f_tp), (ro, u16.2), (ro + 1, f_names), (ro + 17, (upd f_useName ((u16.2 10 : Int32).toNatClampNeg) (u16.2 8))), (ro + 18, f_usePlace), (ro + 19, f_user)]) 3 ((u16.2 10 : Int32).toNatClampNeg) (hn _ _ _ _ _ _) rfl hB.2.2.1 (by decide) rfl h19 rfl rfl rfl ?_
      generalize hg_g20 : upd f_useName ((u16.2 10 : Int32).toNatClampNeg) (u16.2 8) = g20 at hP hO ⊢
      try dsimp only at hP hO
      refine r_aload rfl ?_
      refine r_getr (q := ro + 18) hB.1 hB.2.2.2.2.2.2.2.2.2.2.2.1 ?_
      refine r_aload rfl ?_
      refine r_get (x := u16.2 10) 1 (hn _ _ _ _ _ _) rfl hB.1 (by decide) rfl ?_
      refine r_aload rfl ?_
      refine r_get (x := u16.2 6) 1 (hn _ _ _ _ _ _) rfl hB.1 (by decide) rfl ?_
      obtain ⟨h21, hO⟩ := hO
      refine r_ast (y := u16.2 6) (env' := [(tp, f_tp), (ro, u16.2), (ro + 1, f_names), (ro + 17, g20), (ro + 18, (upd f_usePlace ((u16.2 10 : Int32).toNatClampNeg) (u16.2 6))), (ro + 19, f_user)]) 4 ((u16.2 10 : Int32).toNatClampNeg) (hn _ _ _ _ _ _) rfl hB.2.2.2.1 (by decide) rfl h21 rfl rfl rfl ?_
      generalize hg_g22 : upd f_usePlace ((u16.2 10 : Int32).toNatClampNeg) (u16.2 6) = g22 at hP hO ⊢
      try dsimp only at hP hO
      refine r_aload rfl ?_
      refine r_getr (q := ro + 19) hB.1 hB.2.2.2.2.2.2.2.2.2.2.2.2 ?_
      refine r_aload rfl ?_
      refine r_get (x := u16.2 10) 1 (hn _ _ _ _ _ _) rfl hB.1 (by decide) rfl ?_
      refine r_iload rfl ?_
      obtain ⟨h23, hO⟩ := hO
      refine r_ast (y := y1) (env' := [(tp, f_tp), (ro, u16.2), (ro + 1, f_names), (ro + 17, g20), (ro + 18, g22), (ro + 19, (upd f_user ((u16.2 10 : Int32).toNatClampNeg) y1))]) 5 ((u16.2 10 : Int32).toNatClampNeg) (hn _ _ _ _ _ _) rfl hB.2.2.2.2.1 (by decide) rfl h23 rfl rfl rfl ?_
      generalize hg_g24 : upd f_user ((u16.2 10 : Int32).toNatClampNeg) y1 = g24 at hP hO ⊢
      try dsimp only at hP hO
      refine r_aload rfl ?_
      refine r_dup rfl ?_
      refine r_get (x := u16.2 10) 1 (hn _ _ _ _ _ _) rfl hB.1 (by decide) rfl ?_
      refine r_int ?_
      refine r_iadd ?_
      refine r_put (env' := [(tp, f_tp), (ro, (upd u16.2 10 ((u16.2 10) + 1))), (ro + 1, f_names), (ro + 17, g20), (ro + 18, g22), (ro + 19, g24)]) 1 (hn _ _ _ _ _ _) rfl rfl hB.1 ?_
      refine r_aload rfl ?_
      have h26 := hO
      have k27 := fun (Q' : Option Int32 → mMH → Prop) hq => tX5_scan (d := d + 0) (B := B) (v := mE v [(tp, f_tp), (ro, (upd u16.2 10 ((u16.2 10) + 1))), (ro + 1, f_names), (ro + 17, g20), (ro + 18, g22), (ro + 19, g24)]) (w := w) (Q := Q') hB (by omega) (by omega) f_tp (upd u16.2 10 ((u16.2 10) + 1)) h26 hq
      generalize hg_u25 : FX5_scan f_tp (upd u16.2 10 ((u16.2 10) + 1)) = u25 at k27 hP
      try dsimp only at hP
      refine r_callV (st := []) (o := ro) (as := []) (envc := [(tp, f_tp), (ro, (upd u16.2 10 ((u16.2 10) + 1)))]) (envc' := [(tp, f_tp), (ro, u25.2)]) (env' := [(tp, f_tp), (ro, u25.2), (ro + 1, f_names), (ro + 17, g20), (ro + 18, g22), (ro + 19, g24)]) (rv := none) [0, 1] (hn _ _ _ _ _ _) rfl rfl (Nat.le_of_ble_eq_true rfl) hB.1 rfl rfl rfl k27 ?_
      show RB _ _ _ _ _ [] _ _
      refine r_fall ?_
      exact r_retv rfl (hPQ 0 u25.2 g20 g22 g24 hP)
  · rw [if_neg c17] at hP
    have hO := hO.2 c17
    exact r_retv rfl (hPQ 0 u16.2 f_useName f_usePlace f_user hP)
def FX5_takeUse (x1 : Int32) (f_tp : mF) (f_this : mF) (f_names : mF) (f_useName : mF) (f_usePlace : mF) (f_user : mF) : Int32 × mF × mF × mF × mF :=
  if (f_this 5) = 2 then (let u2 := FX5_name f_this f_names; if u2 = (-1) then (if (f_this 9) = (-1) then (if 112 ≤ (f_this 10) then ((0, f_this, f_useName, f_usePlace, f_user)) else (let g8 := upd f_useName ((f_this 10 : Int32).toNatClampNeg) (f_this 8); let g10 := upd f_usePlace ((f_this 10 : Int32).toNatClampNeg) (f_this 6); let g12 := upd f_user ((f_this 10 : Int32).toNatClampNeg) x1; let u13 := FX5_scan f_tp (upd f_this 10 ((f_this 10) + 1)); (0, u13.2, g8, g10, g12))) else ((0, f_this, f_useName, f_usePlace, f_user))) else (FX5_takeUse_b1 x1 f_tp f_this f_names f_useName f_usePlace f_user)) else (FX5_takeUse_b1 x1 f_tp f_this f_names f_useName f_usePlace f_user)
def OX5_takeUse (x1 : Int32) (f_tp : mF) (f_this : mF) (f_names : mF) (f_useName : mF) (f_usePlace : mF) (f_user : mF) : Prop :=
  ((f_this 5) = 2 → (OX5_name f_this f_names ∧ (let u2 := FX5_name f_this f_names; (u2 = (-1) → (((f_this 9) = (-1) → ((112 ≤ (f_this 10) → True) ∧ (¬ (112 ≤ (f_this 10)) → (vp_in (f_this 10) 112 ∧ (let g8 := upd f_useName ((f_this 10 : Int32).toNatClampNeg) (f_this 8); vp_in (f_this 10) 112 ∧ (let g10 := upd f_usePlace ((f_this 10 : Int32).toNatClampNeg) (f_this 6); vp_in (f_this 10) 112 ∧ (let g12 := upd f_user ((f_this 10 : Int32).toNatClampNeg) x1; OX5_scan f_tp (upd f_this 10 ((f_this 10) + 1))))))))) ∧ (¬ ((f_this 9) = (-1)) → True))) ∧ (¬ (u2 = (-1)) → (OX5_takeUse_b1 x1 f_tp f_this f_names f_useName f_usePlace f_user))))) ∧ (¬ ((f_this 5) = 2) → (OX5_takeUse_b1 x1 f_tp f_this f_names f_useName f_usePlace f_user))
set_option maxRecDepth 20000 in
theorem tX5_takeUse {d : Nat} {B : mB} {v : mV} {w : mX} {Q : Option Int32 → mMH → Prop} {ro tp pg : Nat} (hB : isRead B ro tp pg) (ht : tp < ro) (hpg : ro + 20 ≤ pg) (x1 : Int32) (f_tp : mF) (f_this : mF) (f_names : mF) (f_useName : mF) (f_usePlace : mF) (f_user : mF) (hO : OX5_takeUse x1 f_tp f_this f_names f_useName f_usePlace f_user) (hQ : Q (none) (mH B (mE v [(tp, f_tp), (ro, (FX5_takeUse x1 f_tp f_this f_names f_useName f_usePlace f_user).2.1), (ro + 1, f_names), (ro + 17, (FX5_takeUse x1 f_tp f_this f_names f_useName f_usePlace f_user).2.2.1), (ro + 18, (FX5_takeUse x1 f_tp f_this f_names f_useName f_usePlace f_user).2.2.2.1), (ro + 19, (FX5_takeUse x1 f_tp f_this f_names f_useName f_usePlace f_user).2.2.2.2)]) w)) : CQ (d + 4) 99 [.ref ro, .int x1] (mH B (mE v [(tp, f_tp), (ro, f_this), (ro + 1, f_names), (ro + 17, f_useName), (ro + 18, f_usePlace), (ro + 19, f_user)]) w) Q := by
  have hn : ∀ (f_tp : mF) (f_this : mF) (f_names : mF) (f_useName : mF) (f_usePlace : mF) (f_user : mF), mNd [(tp, f_tp), (ro, f_this), (ro + 1, f_names), (ro + 17, f_useName), (ro + 18, f_usePlace), (ro + 19, f_user)] := fun _ _ _ _ _ _ => by
    show List.Nodup _
    simp only [List.map_cons, List.map_nil, List.nodup_cons, List.mem_cons, List.not_mem_nil, or_false, not_or, not_false_eq_true, List.nodup_nil, and_true]
    omega
  obtain ⟨P, hPQ, hP⟩ : ∃ P : Int32 × mF × mF × mF × mF → Prop, (∀ (q : Int32) (q0 : mF) (q1 : mF) (q2 : mF) (q3 : mF), P (q, q0, q1, q2, q3) → Q (none) (mH B (mE v [(tp, f_tp), (ro, q0), (ro + 1, f_names), (ro + 17, q1), (ro + 18, q2), (ro + 19, q3)]) w)) ∧ P (FX5_takeUse x1 f_tp f_this f_names f_useName f_usePlace f_user) := ⟨fun res => Q (none) (mH B (mE v [(tp, f_tp), (ro, res.2.1), (ro + 1, f_names), (ro + 17, res.2.2.1), (ro + 18, res.2.2.2.1), (ro + 19, res.2.2.2.2)]) w), fun _ _ _ _ _ h => h, hQ⟩
  refine r_begin mt_99 (by intro a ha; simp only [List.mem_cons, List.not_mem_nil, or_false] at ha; rcases ha with rfl | rfl <;> rfl) (Nat.le_of_ble_eq_true rfl) ?_
  rw [FX5_takeUse] at hP
  rw [OX5_takeUse] at hO
  show RB _ _ _ _ [some (.ref ro), some (.int x1)] [] _ _
  refine r_aload rfl ?_
  refine r_get (x := f_this 5) 1 (hn _ _ _ _ _ _) rfl hB.1 (by decide) rfl ?_
  refine r_int ?_
  refine r_icmp1 (fun c1 : (f_this 5) = 2 => ?_) (fun c1 : ¬ ((f_this 5) = 2) => ?_)
  · rw [if_pos c1] at hP
    have hO := hO.1 c1
    refine r_aload rfl ?_
    obtain ⟨h3, hO⟩ := hO
    have k29 := fun (Q' : Option Int32 → mMH → Prop) hq => tX5_name (d := d + 2) (B := B) (v := mE v [(tp, f_tp), (ro, f_this), (ro + 1, f_names), (ro + 17, f_useName), (ro + 18, f_usePlace), (ro + 19, f_user)]) (w := w) (Q := Q') hB (by omega) (by omega) f_this f_names h3 hq
    generalize hg_u2 : FX5_name f_this f_names = u2 at k29 hP hO
    try dsimp only at hP hO
    refine r_callV (st := []) (o := ro) (as := []) (envc := [(ro, f_this), (ro + 1, f_names)]) (envc' := [(ro, f_this), (ro + 1, f_names)]) (env' := [(tp, f_tp), (ro, f_this), (ro + 1, f_names), (ro + 17, f_useName), (ro + 18, f_usePlace), (ro + 19, f_user)]) (rv := some u2) [1, 2] (hn _ _ _ _ _ _) rfl rfl (Nat.le_of_ble_eq_true rfl) hB.1 rfl rfl rfl k29 ?_
    show RB _ _ _ _ _ [.int u2] _ _
    refine r_int ?_
    refine r_icmp (fun c4 : u2 = (-1) => ?_) (fun c4 : ¬ (u2 = (-1)) => ?_)
    · rw [if_pos c4] at hP
      have hO := hO.1 c4
      refine r_aload rfl ?_
      refine r_get (x := f_this 9) 1 (hn _ _ _ _ _ _) rfl hB.1 (by decide) rfl ?_
      refine r_int ?_
      refine r_icmp1 (fun c5 : (f_this 9) = (-1) => ?_) (fun c5 : ¬ ((f_this 9) = (-1)) => ?_)
      · rw [if_pos c5] at hP
        have hO := hO.1 c5
        refine r_aload rfl ?_
        refine r_get (x := f_this 10) 1 (hn _ _ _ _ _ _) rfl hB.1 (by decide) rfl ?_
        refine r_int ?_
        refine r_icmp (fun c6 : 112 ≤ (f_this 10) => ?_) (fun c6 : ¬ (112 ≤ (f_this 10)) => ?_)
        · rw [if_pos c6] at hP
          have hO := hO.1 c6
          exact r_retv rfl (hPQ 0 f_this f_useName f_usePlace f_user hP)
        · rw [if_neg c6] at hP
          have hO := hO.2 c6
          refine r_aload rfl ?_
          refine r_getr (q := ro + 17) hB.1 hB.2.2.2.2.2.2.2.2.2.2.1 ?_
          refine r_aload rfl ?_
          refine r_get (x := f_this 10) 1 (hn _ _ _ _ _ _) rfl hB.1 (by decide) rfl ?_
          refine r_aload rfl ?_
          refine r_get (x := f_this 8) 1 (hn _ _ _ _ _ _) rfl hB.1 (by decide) rfl ?_
          obtain ⟨h7, hO⟩ := hO
          refine r_ast (y := f_this 8) (env' := [(tp, f_tp), (ro, f_this), (ro + 1, f_names), (ro + 17, (upd f_useName ((f_this 10 : Int32).toNatClampNeg) (f_this 8))), (ro + 18, f_usePlace), (ro + 19, f_user)]) 3 ((f_this 10 : Int32).toNatClampNeg) (hn _ _ _ _ _ _) rfl hB.2.2.1 (by decide) rfl h7 rfl rfl rfl ?_
          generalize hg_g8 : upd f_useName ((f_this 10 : Int32).toNatClampNeg) (f_this 8) = g8 at hP hO ⊢
          try dsimp only at hP hO
          refine r_aload rfl ?_
          refine r_getr (q := ro + 18) hB.1 hB.2.2.2.2.2.2.2.2.2.2.2.1 ?_
          refine r_aload rfl ?_
          refine r_get (x := f_this 10) 1 (hn _ _ _ _ _ _) rfl hB.1 (by decide) rfl ?_
          refine r_aload rfl ?_
          refine r_get (x := f_this 6) 1 (hn _ _ _ _ _ _) rfl hB.1 (by decide) rfl ?_
          obtain ⟨h9, hO⟩ := hO
          refine r_ast (y := f_this 6) (env' := [(tp, f_tp), (ro, f_this), (ro + 1, f_names), (ro + 17, g8), (ro + 18, (upd f_usePlace ((f_this 10 : Int32).toNatClampNeg) (f_this 6))), (ro + 19, f_user)]) 4 ((f_this 10 : Int32).toNatClampNeg) (hn _ _ _ _ _ _) rfl hB.2.2.2.1 (by decide) rfl h9 rfl rfl rfl ?_
          generalize hg_g10 : upd f_usePlace ((f_this 10 : Int32).toNatClampNeg) (f_this 6) = g10 at hP hO ⊢
          try dsimp only at hP hO
          refine r_aload rfl ?_
          refine r_getr (q := ro + 19) hB.1 hB.2.2.2.2.2.2.2.2.2.2.2.2 ?_
          refine r_aload rfl ?_
          refine r_get (x := f_this 10) 1 (hn _ _ _ _ _ _) rfl hB.1 (by decide) rfl ?_
          refine r_iload rfl ?_
          obtain ⟨h11, hO⟩ := hO
          refine r_ast (y := x1) (env' := [(tp, f_tp), (ro, f_this), (ro + 1, f_names), (ro + 17, g8), (ro + 18, g10), (ro + 19, (upd f_user ((f_this 10 : Int32).toNatClampNeg) x1))]) 5 ((f_this 10 : Int32).toNatClampNeg) (hn _ _ _ _ _ _) rfl hB.2.2.2.2.1 (by decide) rfl h11 rfl rfl rfl ?_
          generalize hg_g12 : upd f_user ((f_this 10 : Int32).toNatClampNeg) x1 = g12 at hP hO ⊢
          try dsimp only at hP hO
          refine r_aload rfl ?_
          refine r_dup rfl ?_
          refine r_get (x := f_this 10) 1 (hn _ _ _ _ _ _) rfl hB.1 (by decide) rfl ?_
          refine r_int ?_
          refine r_iadd ?_
          refine r_put (env' := [(tp, f_tp), (ro, (upd f_this 10 ((f_this 10) + 1))), (ro + 1, f_names), (ro + 17, g8), (ro + 18, g10), (ro + 19, g12)]) 1 (hn _ _ _ _ _ _) rfl rfl hB.1 ?_
          refine r_aload rfl ?_
          have h14 := hO
          have k15 := fun (Q' : Option Int32 → mMH → Prop) hq => tX5_scan (d := d + 0) (B := B) (v := mE v [(tp, f_tp), (ro, (upd f_this 10 ((f_this 10) + 1))), (ro + 1, f_names), (ro + 17, g8), (ro + 18, g10), (ro + 19, g12)]) (w := w) (Q := Q') hB (by omega) (by omega) f_tp (upd f_this 10 ((f_this 10) + 1)) h14 hq
          generalize hg_u13 : FX5_scan f_tp (upd f_this 10 ((f_this 10) + 1)) = u13 at k15 hP
          try dsimp only at hP
          refine r_callV (st := []) (o := ro) (as := []) (envc := [(tp, f_tp), (ro, (upd f_this 10 ((f_this 10) + 1)))]) (envc' := [(tp, f_tp), (ro, u13.2)]) (env' := [(tp, f_tp), (ro, u13.2), (ro + 1, f_names), (ro + 17, g8), (ro + 18, g10), (ro + 19, g12)]) (rv := none) [0, 1] (hn _ _ _ _ _ _) rfl rfl (Nat.le_of_ble_eq_true rfl) hB.1 rfl rfl rfl k15 ?_
          show RB _ _ _ _ _ [] _ _
          refine r_fall ?_
          exact r_retv rfl (hPQ 0 u13.2 g8 g10 g12 hP)
      · rw [if_neg c5] at hP
        have hO := hO.2 c5
        exact r_retv rfl (hPQ 0 f_this f_useName f_usePlace f_user hP)
    · rw [if_neg c4] at hP
      have hO := hO.2 c4
      refine r_fall ?_
      exact tX5_takeUse_b1 hB ht hpg hPQ x1 f_this f_useName f_usePlace f_user hO hP
  · rw [if_neg c1] at hP
    have hO := hO.2 c1
    exact tX5_takeUse_b1 hB ht hpg hPQ x1 f_this f_useName f_usePlace f_user hO hP

def FX5_readLabel (f_tp : mF) (f_this : mF) (f_prg : mF) (f_prg_labelName : mF) (f_prg_labelAt : mF) : Int32 × mF × mF × mF × mF :=
  let u1 := FX4_placeOf (f_this 8) f_prg f_prg_labelName f_prg_labelAt; if u1 = (-1) then (let u4 := FX4_addLabel (f_this 8) f_prg f_prg_labelName f_prg_labelAt; let u6 := FX5_scan f_tp f_this; (0, u6.2, u4.2.1, u4.2.2.1, u4.2.2.2)) else (let u10 := FX5_fail (f_this 6) 2 f_this; (0, u10.2, f_prg, f_prg_labelName, f_prg_labelAt))
def OX5_readLabel (f_tp : mF) (f_this : mF) (f_prg : mF) (f_prg_labelName : mF) (f_prg_labelAt : mF) : Prop :=
  OX4_placeOf (f_this 8) f_prg f_prg_labelName f_prg_labelAt ∧ (let u1 := FX4_placeOf (f_this 8) f_prg f_prg_labelName f_prg_labelAt; (u1 = (-1) → (OX4_addLabel (f_this 8) f_prg f_prg_labelName f_prg_labelAt ∧ (let u4 := FX4_addLabel (f_this 8) f_prg f_prg_labelName f_prg_labelAt; OX5_scan f_tp f_this))) ∧ (¬ (u1 = (-1)) → True))
set_option maxRecDepth 20000 in
theorem tX5_readLabel {d : Nat} {B : mB} {v : mV} {w : mX} {Q : Option Int32 → mMH → Prop} {ro tp pg : Nat} (hB : isRead B ro tp pg) (ht : tp < ro) (hpg : ro + 20 ≤ pg) (f_tp : mF) (f_this : mF) (f_prg : mF) (f_prg_labelName : mF) (f_prg_labelAt : mF) (hO : OX5_readLabel f_tp f_this f_prg f_prg_labelName f_prg_labelAt) (hQ : Q (none) (mH B (mE v [(tp, f_tp), (ro, (FX5_readLabel f_tp f_this f_prg f_prg_labelName f_prg_labelAt).2.1), (pg, (FX5_readLabel f_tp f_this f_prg f_prg_labelName f_prg_labelAt).2.2.1), (pg + 3, (FX5_readLabel f_tp f_this f_prg f_prg_labelName f_prg_labelAt).2.2.2.1), (pg + 4, (FX5_readLabel f_tp f_this f_prg f_prg_labelName f_prg_labelAt).2.2.2.2)]) w)) : CQ (d + 4) 96 [.ref ro] (mH B (mE v [(tp, f_tp), (ro, f_this), (pg, f_prg), (pg + 3, f_prg_labelName), (pg + 4, f_prg_labelAt)]) w) Q := by
  have hn : ∀ (f_tp : mF) (f_this : mF) (f_prg : mF) (f_prg_labelName : mF) (f_prg_labelAt : mF), mNd [(tp, f_tp), (ro, f_this), (pg, f_prg), (pg + 3, f_prg_labelName), (pg + 4, f_prg_labelAt)] := fun _ _ _ _ _ => by
    show List.Nodup _
    simp only [List.map_cons, List.map_nil, List.nodup_cons, List.mem_cons, List.not_mem_nil, or_false, not_or, not_false_eq_true, List.nodup_nil, and_true]
    omega
  obtain ⟨P, hPQ, hP⟩ : ∃ P : Int32 × mF × mF × mF × mF → Prop, (∀ (q : Int32) (q0 : mF) (q1 : mF) (q2 : mF) (q3 : mF), P (q, q0, q1, q2, q3) → Q (none) (mH B (mE v [(tp, f_tp), (ro, q0), (pg, q1), (pg + 3, q2), (pg + 4, q3)]) w)) ∧ P (FX5_readLabel f_tp f_this f_prg f_prg_labelName f_prg_labelAt) := ⟨fun res => Q (none) (mH B (mE v [(tp, f_tp), (ro, res.2.1), (pg, res.2.2.1), (pg + 3, res.2.2.2.1), (pg + 4, res.2.2.2.2)]) w), fun _ _ _ _ _ h => h, hQ⟩
  refine r_begin mt_96 (by intro a ha; simp only [List.mem_cons, List.not_mem_nil, or_false] at ha; rcases ha with rfl <;> rfl) (Nat.le_of_ble_eq_true rfl) ?_
  rw [FX5_readLabel] at hP
  rw [OX5_readLabel] at hO
  show RB _ _ _ _ [some (.ref ro)] [] _ _
  refine r_aload rfl ?_
  refine r_getr (q := pg) hB.1 hB.2.2.2.2.2.2.2.2.2.1 ?_
  refine r_aload rfl ?_
  refine r_get (x := f_this 8) 1 (hn _ _ _ _ _) rfl hB.1 (by decide) rfl ?_
  obtain ⟨h2, hO⟩ := hO
  have k12 := fun (Q' : Option Int32 → mMH → Prop) hq => tX4_placeOf (d := d + 2) (B := B) (v := mE v [(tp, f_tp), (ro, f_this), (pg, f_prg), (pg + 3, f_prg_labelName), (pg + 4, f_prg_labelAt)]) (w := w) (Q := Q') hB.2.2.2.2.2.2.1 (f_this 8) f_prg f_prg_labelName f_prg_labelAt h2 hq
  generalize hg_u1 : FX4_placeOf (f_this 8) f_prg f_prg_labelName f_prg_labelAt = u1 at k12 hP hO
  try dsimp only at hP hO
  refine r_callV (st := []) (o := pg) (as := [.int (f_this 8)]) (envc := [(pg, f_prg), (pg + 3, f_prg_labelName), (pg + 4, f_prg_labelAt)]) (envc' := [(pg, f_prg), (pg + 3, f_prg_labelName), (pg + 4, f_prg_labelAt)]) (env' := [(tp, f_tp), (ro, f_this), (pg, f_prg), (pg + 3, f_prg_labelName), (pg + 4, f_prg_labelAt)]) (rv := some u1) [2, 3, 4] (hn _ _ _ _ _) rfl rfl (Nat.le_of_ble_eq_true rfl) hB.2.2.2.2.2.2.1.1 rfl rfl rfl k12 ?_
  show RB _ _ _ _ _ [.int u1] _ _
  refine r_int ?_
  refine r_icmp (fun c3 : u1 = (-1) => ?_) (fun c3 : ¬ (u1 = (-1)) => ?_)
  · rw [if_pos c3] at hP
    have hO := hO.1 c3
    refine r_aload rfl ?_
    refine r_getr (q := pg) hB.1 hB.2.2.2.2.2.2.2.2.2.1 ?_
    refine r_aload rfl ?_
    refine r_get (x := f_this 8) 1 (hn _ _ _ _ _) rfl hB.1 (by decide) rfl ?_
    obtain ⟨h5, hO⟩ := hO
    have k9 := fun (Q' : Option Int32 → mMH → Prop) hq => tX4_addLabel (d := d + 2) (B := B) (v := mE v [(tp, f_tp), (ro, f_this), (pg, f_prg), (pg + 3, f_prg_labelName), (pg + 4, f_prg_labelAt)]) (w := w) (Q := Q') hB.2.2.2.2.2.2.1 (f_this 8) f_prg f_prg_labelName f_prg_labelAt h5 hq
    generalize hg_u4 : FX4_addLabel (f_this 8) f_prg f_prg_labelName f_prg_labelAt = u4 at k9 hP hO
    try dsimp only at hP hO
    refine r_callV (st := []) (o := pg) (as := [.int (f_this 8)]) (envc := [(pg, f_prg), (pg + 3, f_prg_labelName), (pg + 4, f_prg_labelAt)]) (envc' := [(pg, u4.2.1), (pg + 3, u4.2.2.1), (pg + 4, u4.2.2.2)]) (env' := [(tp, f_tp), (ro, f_this), (pg, u4.2.1), (pg + 3, u4.2.2.1), (pg + 4, u4.2.2.2)]) (rv := none) [2, 3, 4] (hn _ _ _ _ _) rfl rfl (Nat.le_of_ble_eq_true rfl) hB.2.2.2.2.2.2.1.1 rfl rfl rfl k9 ?_
    show RB _ _ _ _ _ [] _ _
    refine r_aload rfl ?_
    have h7 := hO
    have k8 := fun (Q' : Option Int32 → mMH → Prop) hq => tX5_scan (d := d + 0) (B := B) (v := mE v [(tp, f_tp), (ro, f_this), (pg, u4.2.1), (pg + 3, u4.2.2.1), (pg + 4, u4.2.2.2)]) (w := w) (Q := Q') hB (by omega) (by omega) f_tp f_this h7 hq
    generalize hg_u6 : FX5_scan f_tp f_this = u6 at k8 hP
    try dsimp only at hP
    refine r_callV (st := []) (o := ro) (as := []) (envc := [(tp, f_tp), (ro, f_this)]) (envc' := [(tp, f_tp), (ro, u6.2)]) (env' := [(tp, f_tp), (ro, u6.2), (pg, u4.2.1), (pg + 3, u4.2.2.1), (pg + 4, u4.2.2.2)]) (rv := none) [0, 1] (hn _ _ _ _ _) rfl rfl (Nat.le_of_ble_eq_true rfl) hB.1 rfl rfl rfl k8 ?_
    show RB _ _ _ _ _ [] _ _
    exact r_retv rfl (hPQ 0 u6.2 u4.2.1 u4.2.2.1 u4.2.2.2 hP)
  · rw [if_neg c3] at hP
    have hO := hO.2 c3
    refine r_aload rfl ?_
    refine r_aload rfl ?_
    refine r_get (x := f_this 6) 1 (hn _ _ _ _ _) rfl hB.1 (by decide) rfl ?_
    refine r_int ?_
    have k11 := fun (Q' : Option Int32 → mMH → Prop) hq => tX5_fail (d := d + 2) (B := B) (v := mE v [(tp, f_tp), (ro, f_this), (pg, f_prg), (pg + 3, f_prg_labelName), (pg + 4, f_prg_labelAt)]) (w := w) (Q := Q') hB (by omega) (by omega) (f_this 6) 2 f_this hq
    generalize hg_u10 : FX5_fail (f_this 6) 2 f_this = u10 at k11 hP
    try dsimp only at hP
    refine r_callV (st := []) (o := ro) (as := [.int (f_this 6), .int 2]) (envc := [(ro, f_this)]) (envc' := [(ro, u10.2)]) (env' := [(tp, f_tp), (ro, u10.2), (pg, f_prg), (pg + 3, f_prg_labelName), (pg + 4, f_prg_labelAt)]) (rv := none) [1] (hn _ _ _ _ _) rfl rfl (Nat.le_of_ble_eq_true rfl) hB.1 rfl rfl rfl k11 ?_
    show RB _ _ _ _ _ [] _ _
    exact r_retv rfl (hPQ 0 u10.2 f_prg f_prg_labelName f_prg_labelAt hP)

def FX5_readSlice (f_tp : mF) (f_this : mF) (f_prg : mF) : Int32 × mF × mF :=
  if (f_this 4) = 0 then (let u2 := FX5_scan f_tp (upd f_this 4 1); let u4 := FX5_takeNumber 1 60 f_tp u2.2; (0, u4.2, (upd f_prg 0 u4.1))) else (let u8 := FX5_fail (f_this 6) 2 f_this; (0, u8.2, f_prg))
def OX5_readSlice (f_tp : mF) (f_this : mF) (f_prg : mF) : Prop :=
  ((f_this 4) = 0 → (OX5_scan f_tp (upd f_this 4 1) ∧ (let u2 := FX5_scan f_tp (upd f_this 4 1); OX5_takeNumber 1 60 f_tp u2.2))) ∧ (¬ ((f_this 4) = 0) → True)
set_option maxRecDepth 20000 in
theorem tX5_readSlice {d : Nat} {B : mB} {v : mV} {w : mX} {Q : Option Int32 → mMH → Prop} {ro tp pg : Nat} (hB : isRead B ro tp pg) (ht : tp < ro) (hpg : ro + 20 ≤ pg) (f_tp : mF) (f_this : mF) (f_prg : mF) (hO : OX5_readSlice f_tp f_this f_prg) (hQ : Q (none) (mH B (mE v [(tp, f_tp), (ro, (FX5_readSlice f_tp f_this f_prg).2.1), (pg, (FX5_readSlice f_tp f_this f_prg).2.2)]) w)) : CQ (d + 5) 91 [.ref ro] (mH B (mE v [(tp, f_tp), (ro, f_this), (pg, f_prg)]) w) Q := by
  have hn : ∀ (f_tp : mF) (f_this : mF) (f_prg : mF), mNd [(tp, f_tp), (ro, f_this), (pg, f_prg)] := fun _ _ _ => by
    show List.Nodup _
    simp only [List.map_cons, List.map_nil, List.nodup_cons, List.mem_cons, List.not_mem_nil, or_false, not_or, not_false_eq_true, List.nodup_nil, and_true]
    omega
  obtain ⟨P, hPQ, hP⟩ : ∃ P : Int32 × mF × mF → Prop, (∀ (q : Int32) (q0 : mF) (q1 : mF), P (q, q0, q1) → Q (none) (mH B (mE v [(tp, f_tp), (ro, q0), (pg, q1)]) w)) ∧ P (FX5_readSlice f_tp f_this f_prg) := ⟨fun res => Q (none) (mH B (mE v [(tp, f_tp), (ro, res.2.1), (pg, res.2.2)]) w), fun _ _ _ h => h, hQ⟩
  refine r_begin mt_91 (by intro a ha; simp only [List.mem_cons, List.not_mem_nil, or_false] at ha; rcases ha with rfl <;> rfl) (Nat.le_of_ble_eq_true rfl) ?_
  rw [FX5_readSlice] at hP
  rw [OX5_readSlice] at hO
  show RB _ _ _ _ [some (.ref ro)] [] _ _
  refine r_aload rfl ?_
  refine r_get (x := f_this 4) 1 (hn _ _ _) rfl hB.1 (by decide) rfl ?_
  refine r_if (fun c1 : (f_this 4) = 0 => ?_) (fun c1 : ¬ ((f_this 4) = 0) => ?_)
  · rw [if_pos c1] at hP
    have hO := hO.1 c1
    refine r_aload rfl ?_
    refine r_int ?_
    refine r_putz (env' := [(tp, f_tp), (ro, (upd f_this 4 1)), (pg, f_prg)]) 1 (hn _ _ _) rfl rfl hB.1 (by decide) ?_
    refine r_aload rfl ?_
    obtain ⟨h3, hO⟩ := hO
    have k7 := fun (Q' : Option Int32 → mMH → Prop) hq => tX5_scan (d := d + 1) (B := B) (v := mE v [(tp, f_tp), (ro, (upd f_this 4 1)), (pg, f_prg)]) (w := w) (Q := Q') hB (by omega) (by omega) f_tp (upd f_this 4 1) h3 hq
    generalize hg_u2 : FX5_scan f_tp (upd f_this 4 1) = u2 at k7 hP hO
    try dsimp only at hP hO
    refine r_callV (st := []) (o := ro) (as := []) (envc := [(tp, f_tp), (ro, (upd f_this 4 1))]) (envc' := [(tp, f_tp), (ro, u2.2)]) (env' := [(tp, f_tp), (ro, u2.2), (pg, f_prg)]) (rv := none) [0, 1] (hn _ _ _) rfl rfl (Nat.le_of_ble_eq_true rfl) hB.1 rfl rfl rfl k7 ?_
    show RB _ _ _ _ _ [] _ _
    refine r_aload rfl ?_
    refine r_getr (q := pg) hB.1 hB.2.2.2.2.2.2.2.2.2.1 ?_
    refine r_aload rfl ?_
    refine r_int ?_
    refine r_int ?_
    have h5 := hO
    have k6 := fun (Q' : Option Int32 → mMH → Prop) hq => tX5_takeNumber (d := d + 0) (B := B) (v := mE v [(tp, f_tp), (ro, u2.2), (pg, f_prg)]) (w := w) (Q := Q') hB (by omega) (by omega) 1 60 f_tp u2.2 h5 hq
    generalize hg_u4 : FX5_takeNumber 1 60 f_tp u2.2 = u4 at k6 hP
    try dsimp only at hP
    refine r_callV (st := [.ref pg]) (o := ro) (as := [.int 1, .int 60]) (envc := [(tp, f_tp), (ro, u2.2)]) (envc' := [(tp, f_tp), (ro, u4.2)]) (env' := [(tp, f_tp), (ro, u4.2), (pg, f_prg)]) (rv := some u4.1) [0, 1] (hn _ _ _) rfl rfl (Nat.le_of_ble_eq_true rfl) hB.1 rfl rfl rfl k6 ?_
    show RB _ _ _ _ _ [.int u4.1, .ref pg] _ _
    refine r_put (env' := [(tp, f_tp), (ro, u4.2), (pg, (upd f_prg 0 u4.1))]) 2 (hn _ _ _) rfl rfl hB.2.2.2.2.2.2.1.1 ?_
    exact r_retv rfl (hPQ 0 u4.2 (upd f_prg 0 u4.1) hP)
  · rw [if_neg c1] at hP
    have hO := hO.2 c1
    refine r_aload rfl ?_
    refine r_aload rfl ?_
    refine r_get (x := f_this 6) 1 (hn _ _ _) rfl hB.1 (by decide) rfl ?_
    refine r_int ?_
    have k9 := fun (Q' : Option Int32 → mMH → Prop) hq => tX5_fail (d := d + 3) (B := B) (v := mE v [(tp, f_tp), (ro, f_this), (pg, f_prg)]) (w := w) (Q := Q') hB (by omega) (by omega) (f_this 6) 2 f_this hq
    generalize hg_u8 : FX5_fail (f_this 6) 2 f_this = u8 at k9 hP
    try dsimp only at hP
    refine r_callV (st := []) (o := ro) (as := [.int (f_this 6), .int 2]) (envc := [(ro, f_this)]) (envc' := [(ro, u8.2)]) (env' := [(tp, f_tp), (ro, u8.2), (pg, f_prg)]) (rv := none) [1] (hn _ _ _) rfl rfl (Nat.le_of_ble_eq_true rfl) hB.1 rfl rfl rfl k9 ?_
    show RB _ _ _ _ _ [] _ _
    exact r_retv rfl (hPQ 0 u8.2 f_prg hP)

def FX5_readWord (f_tp : mF) (f_this : mF) (f_prg_memory : mF) : Int32 × mF × mF :=
  let u1 := FX5_scan f_tp f_this; let u3 := FX5_takeNumber 0 1 f_tp u1.2; let u5 := FX5_takeNumber 0 95 f_tp u3.2; let u7 := FX5_takeNumber (-9999) 9999 f_tp u5.2; let u9 := FX4_setWord u3.1 u5.1 u7.1 f_prg_memory; (0, u7.2, u9.2)
def OX5_readWord (f_tp : mF) (f_this : mF) (f_prg_memory : mF) : Prop :=
  OX5_scan f_tp f_this ∧ (let u1 := FX5_scan f_tp f_this; OX5_takeNumber 0 1 f_tp u1.2 ∧ (let u3 := FX5_takeNumber 0 1 f_tp u1.2; OX5_takeNumber 0 95 f_tp u3.2 ∧ (let u5 := FX5_takeNumber 0 95 f_tp u3.2; OX5_takeNumber (-9999) 9999 f_tp u5.2 ∧ (let u7 := FX5_takeNumber (-9999) 9999 f_tp u5.2; OX4_setWord u3.1 u5.1 u7.1 f_prg_memory))))
set_option maxRecDepth 20000 in
theorem tX5_readWord {d : Nat} {B : mB} {v : mV} {w : mX} {Q : Option Int32 → mMH → Prop} {ro tp pg : Nat} (hB : isRead B ro tp pg) (ht : tp < ro) (hpg : ro + 20 ≤ pg) (f_tp : mF) (f_this : mF) (f_prg_memory : mF) (hO : OX5_readWord f_tp f_this f_prg_memory) (hQ : Q (none) (mH B (mE v [(tp, f_tp), (ro, (FX5_readWord f_tp f_this f_prg_memory).2.1), (pg + 13, (FX5_readWord f_tp f_this f_prg_memory).2.2)]) w)) : CQ (d + 5) 92 [.ref ro] (mH B (mE v [(tp, f_tp), (ro, f_this), (pg + 13, f_prg_memory)]) w) Q := by
  have hn : ∀ (f_tp : mF) (f_this : mF) (f_prg_memory : mF), mNd [(tp, f_tp), (ro, f_this), (pg + 13, f_prg_memory)] := fun _ _ _ => by
    show List.Nodup _
    simp only [List.map_cons, List.map_nil, List.nodup_cons, List.mem_cons, List.not_mem_nil, or_false, not_or, not_false_eq_true, List.nodup_nil, and_true]
    omega
  obtain ⟨P, hPQ, hP⟩ : ∃ P : Int32 × mF × mF → Prop, (∀ (q : Int32) (q0 : mF) (q1 : mF), P (q, q0, q1) → Q (none) (mH B (mE v [(tp, f_tp), (ro, q0), (pg + 13, q1)]) w)) ∧ P (FX5_readWord f_tp f_this f_prg_memory) := ⟨fun res => Q (none) (mH B (mE v [(tp, f_tp), (ro, res.2.1), (pg + 13, res.2.2)]) w), fun _ _ _ h => h, hQ⟩
  refine r_begin mt_92 (by intro a ha; simp only [List.mem_cons, List.not_mem_nil, or_false] at ha; rcases ha with rfl <;> rfl) (Nat.le_of_ble_eq_true rfl) ?_
  rw [FX5_readWord] at hP
  rw [OX5_readWord] at hO
  show RB _ _ _ _ [some (.ref ro), none, none, none] [] _ _
  refine r_aload rfl ?_
  obtain ⟨h2, hO⟩ := hO
  have k15 := fun (Q' : Option Int32 → mMH → Prop) hq => tX5_scan (d := d + 1) (B := B) (v := mE v [(tp, f_tp), (ro, f_this), (pg + 13, f_prg_memory)]) (w := w) (Q := Q') hB (by omega) (by omega) f_tp f_this h2 hq
  generalize hg_u1 : FX5_scan f_tp f_this = u1 at k15 hP hO
  try dsimp only at hP hO
  refine r_callV (st := []) (o := ro) (as := []) (envc := [(tp, f_tp), (ro, f_this)]) (envc' := [(tp, f_tp), (ro, u1.2)]) (env' := [(tp, f_tp), (ro, u1.2), (pg + 13, f_prg_memory)]) (rv := none) [0, 1] (hn _ _ _) rfl rfl (Nat.le_of_ble_eq_true rfl) hB.1 rfl rfl rfl k15 ?_
  show RB _ _ _ _ _ [] _ _
  refine r_aload rfl ?_
  refine r_int ?_
  refine r_int ?_
  obtain ⟨h4, hO⟩ := hO
  have k14 := fun (Q' : Option Int32 → mMH → Prop) hq => tX5_takeNumber (d := d + 0) (B := B) (v := mE v [(tp, f_tp), (ro, u1.2), (pg + 13, f_prg_memory)]) (w := w) (Q := Q') hB (by omega) (by omega) 0 1 f_tp u1.2 h4 hq
  generalize hg_u3 : FX5_takeNumber 0 1 f_tp u1.2 = u3 at k14 hP hO
  try dsimp only at hP hO
  refine r_callV (st := []) (o := ro) (as := [.int 0, .int 1]) (envc := [(tp, f_tp), (ro, u1.2)]) (envc' := [(tp, f_tp), (ro, u3.2)]) (env' := [(tp, f_tp), (ro, u3.2), (pg + 13, f_prg_memory)]) (rv := some u3.1) [0, 1] (hn _ _ _) rfl rfl (Nat.le_of_ble_eq_true rfl) hB.1 rfl rfl rfl k14 ?_
  show RB _ _ _ _ _ [.int u3.1] _ _
  refine r_istore (L' := [some (.ref ro), some (.int u3.1), none, none]) rfl rfl ?_
  refine r_aload rfl ?_
  refine r_int ?_
  refine r_int ?_
  obtain ⟨h6, hO⟩ := hO
  have k13 := fun (Q' : Option Int32 → mMH → Prop) hq => tX5_takeNumber (d := d + 0) (B := B) (v := mE v [(tp, f_tp), (ro, u3.2), (pg + 13, f_prg_memory)]) (w := w) (Q := Q') hB (by omega) (by omega) 0 95 f_tp u3.2 h6 hq
  generalize hg_u5 : FX5_takeNumber 0 95 f_tp u3.2 = u5 at k13 hP hO
  try dsimp only at hP hO
  refine r_callV (st := []) (o := ro) (as := [.int 0, .int 95]) (envc := [(tp, f_tp), (ro, u3.2)]) (envc' := [(tp, f_tp), (ro, u5.2)]) (env' := [(tp, f_tp), (ro, u5.2), (pg + 13, f_prg_memory)]) (rv := some u5.1) [0, 1] (hn _ _ _) rfl rfl (Nat.le_of_ble_eq_true rfl) hB.1 rfl rfl rfl k13 ?_
  show RB _ _ _ _ _ [.int u5.1] _ _
  refine r_istore (L' := [some (.ref ro), some (.int u3.1), some (.int u5.1), none]) rfl rfl ?_
  refine r_aload rfl ?_
  refine r_int ?_
  refine r_int ?_
  obtain ⟨h8, hO⟩ := hO
  have k12 := fun (Q' : Option Int32 → mMH → Prop) hq => tX5_takeNumber (d := d + 0) (B := B) (v := mE v [(tp, f_tp), (ro, u5.2), (pg + 13, f_prg_memory)]) (w := w) (Q := Q') hB (by omega) (by omega) (-9999) 9999 f_tp u5.2 h8 hq
  generalize hg_u7 : FX5_takeNumber (-9999) 9999 f_tp u5.2 = u7 at k12 hP hO
  try dsimp only at hP hO
  refine r_callV (st := []) (o := ro) (as := [.int (-9999), .int 9999]) (envc := [(tp, f_tp), (ro, u5.2)]) (envc' := [(tp, f_tp), (ro, u7.2)]) (env' := [(tp, f_tp), (ro, u7.2), (pg + 13, f_prg_memory)]) (rv := some u7.1) [0, 1] (hn _ _ _) rfl rfl (Nat.le_of_ble_eq_true rfl) hB.1 rfl rfl rfl k12 ?_
  show RB _ _ _ _ _ [.int u7.1] _ _
  refine r_istore (L' := [some (.ref ro), some (.int u3.1), some (.int u5.1), some (.int u7.1)]) rfl rfl ?_
  refine r_aload rfl ?_
  refine r_getr (q := pg) hB.1 hB.2.2.2.2.2.2.2.2.2.1 ?_
  refine r_iload rfl ?_
  refine r_iload rfl ?_
  refine r_iload rfl ?_
  have h10 := hO
  have k11 := fun (Q' : Option Int32 → mMH → Prop) hq => tX4_setWord (d := d + 3) (B := B) (v := mE v [(tp, f_tp), (ro, u7.2), (pg + 13, f_prg_memory)]) (w := w) (Q := Q') hB.2.2.2.2.2.2.1 u3.1 u5.1 u7.1 f_prg_memory h10 hq
  generalize hg_u9 : FX4_setWord u3.1 u5.1 u7.1 f_prg_memory = u9 at k11 hP
  try dsimp only at hP
  refine r_callV (st := []) (o := pg) (as := [.int u3.1, .int u5.1, .int u7.1]) (envc := [(pg + 13, f_prg_memory)]) (envc' := [(pg + 13, u9.2)]) (env' := [(tp, f_tp), (ro, u7.2), (pg + 13, u9.2)]) (rv := none) [2] (hn _ _ _) rfl rfl (Nat.le_of_ble_eq_true rfl) hB.2.2.2.2.2.2.1.1 rfl rfl rfl k11 ?_
  show RB _ _ _ _ _ [] _ _
  exact r_retv rfl (hPQ 0 u7.2 u9.2 hP)

def FX5_readJoin (f_tp : mF) (f_this : mF) (f_prg : mF) (f_prg_sender : mF) (f_prg_sendLink : mF) (f_prg_receiver : mF) (f_prg_receiveLink : mF) : Int32 × mF × mF × mF × mF × mF × mF :=
  let u1 := FX5_scan f_tp f_this; let u3 := FX5_takeNumber 0 1 f_tp u1.2; let u5 := FX5_takeNumber 0 1 f_tp u3.2; let u7 := FX4_isSending u3.1 u5.1 f_prg f_prg_sender f_prg_sendLink; if u7 = 0 then (let u10 := FX5_takeNumber 0 1 f_tp u5.2; let u12 := FX5_takeNumber 0 1 f_tp u10.2; let u14 := FX4_isReceiving u10.1 u12.1 f_prg f_prg_receiver f_prg_receiveLink; if u14 = 0 then (let u17 := FX4_addJoin u3.1 u5.1 u10.1 u12.1 f_prg f_prg_sender f_prg_sendLink f_prg_receiver f_prg_receiveLink; (0, u12.2, u17.2.1, u17.2.2.1, u17.2.2.2.1, u17.2.2.2.2.1, u17.2.2.2.2.2)) else (let u20 := FX5_fail (u10.2 6) 2 u12.2; let u21 := FX4_addJoin u3.1 u5.1 u10.1 u12.1 f_prg f_prg_sender f_prg_sendLink f_prg_receiver f_prg_receiveLink; (0, u20.2, u21.2.1, u21.2.2.1, u21.2.2.2.1, u21.2.2.2.2.1, u21.2.2.2.2.2))) else (let u28 := FX5_fail (u3.2 6) 2 u5.2; let u29 := FX5_takeNumber 0 1 f_tp u28.2; let u31 := FX5_takeNumber 0 1 f_tp u29.2; let u33 := FX4_isReceiving u29.1 u31.1 f_prg f_prg_receiver f_prg_receiveLink; if u33 = 0 then (let u36 := FX4_addJoin u3.1 u5.1 u29.1 u31.1 f_prg f_prg_sender f_prg_sendLink f_prg_receiver f_prg_receiveLink; (0, u31.2, u36.2.1, u36.2.2.1, u36.2.2.2.1, u36.2.2.2.2.1, u36.2.2.2.2.2)) else (let u39 := FX5_fail (u29.2 6) 2 u31.2; let u40 := FX4_addJoin u3.1 u5.1 u29.1 u31.1 f_prg f_prg_sender f_prg_sendLink f_prg_receiver f_prg_receiveLink; (0, u39.2, u40.2.1, u40.2.2.1, u40.2.2.2.1, u40.2.2.2.2.1, u40.2.2.2.2.2)))
def OX5_readJoin (f_tp : mF) (f_this : mF) (f_prg : mF) (f_prg_sender : mF) (f_prg_sendLink : mF) (f_prg_receiver : mF) (f_prg_receiveLink : mF) : Prop :=
  OX5_scan f_tp f_this ∧ (let u1 := FX5_scan f_tp f_this; OX5_takeNumber 0 1 f_tp u1.2 ∧ (let u3 := FX5_takeNumber 0 1 f_tp u1.2; OX5_takeNumber 0 1 f_tp u3.2 ∧ (let u5 := FX5_takeNumber 0 1 f_tp u3.2; OX4_isSending u3.1 u5.1 f_prg f_prg_sender f_prg_sendLink ∧ (let u7 := FX4_isSending u3.1 u5.1 f_prg f_prg_sender f_prg_sendLink; (u7 = 0 → (OX5_takeNumber 0 1 f_tp u5.2 ∧ (let u10 := FX5_takeNumber 0 1 f_tp u5.2; OX5_takeNumber 0 1 f_tp u10.2 ∧ (let u12 := FX5_takeNumber 0 1 f_tp u10.2; OX4_isReceiving u10.1 u12.1 f_prg f_prg_receiver f_prg_receiveLink ∧ (let u14 := FX4_isReceiving u10.1 u12.1 f_prg f_prg_receiver f_prg_receiveLink; (u14 = 0 → (OX4_addJoin u3.1 u5.1 u10.1 u12.1 f_prg f_prg_sender f_prg_sendLink f_prg_receiver f_prg_receiveLink)) ∧ (¬ (u14 = 0) → ((let u20 := FX5_fail (u10.2 6) 2 u12.2; OX4_addJoin u3.1 u5.1 u10.1 u12.1 f_prg f_prg_sender f_prg_sendLink f_prg_receiver f_prg_receiveLink)))))))) ∧ (¬ (u7 = 0) → ((let u28 := FX5_fail (u3.2 6) 2 u5.2; OX5_takeNumber 0 1 f_tp u28.2 ∧ (let u29 := FX5_takeNumber 0 1 f_tp u28.2; OX5_takeNumber 0 1 f_tp u29.2 ∧ (let u31 := FX5_takeNumber 0 1 f_tp u29.2; OX4_isReceiving u29.1 u31.1 f_prg f_prg_receiver f_prg_receiveLink ∧ (let u33 := FX4_isReceiving u29.1 u31.1 f_prg f_prg_receiver f_prg_receiveLink; (u33 = 0 → (OX4_addJoin u3.1 u5.1 u29.1 u31.1 f_prg f_prg_sender f_prg_sendLink f_prg_receiver f_prg_receiveLink)) ∧ (¬ (u33 = 0) → ((let u39 := FX5_fail (u29.2 6) 2 u31.2; OX4_addJoin u3.1 u5.1 u29.1 u31.1 f_prg f_prg_sender f_prg_sendLink f_prg_receiver f_prg_receiveLink)))))))))))))
set_option maxRecDepth 20000 in
theorem tX5_readJoin {d : Nat} {B : mB} {v : mV} {w : mX} {Q : Option Int32 → mMH → Prop} {ro tp pg : Nat} (hB : isRead B ro tp pg) (ht : tp < ro) (hpg : ro + 20 ≤ pg) (f_tp : mF) (f_this : mF) (f_prg : mF) (f_prg_sender : mF) (f_prg_sendLink : mF) (f_prg_receiver : mF) (f_prg_receiveLink : mF) (hO : OX5_readJoin f_tp f_this f_prg f_prg_sender f_prg_sendLink f_prg_receiver f_prg_receiveLink) (hQ : Q (none) (mH B (mE v [(tp, f_tp), (ro, (FX5_readJoin f_tp f_this f_prg f_prg_sender f_prg_sendLink f_prg_receiver f_prg_receiveLink).2.1), (pg, (FX5_readJoin f_tp f_this f_prg f_prg_sender f_prg_sendLink f_prg_receiver f_prg_receiveLink).2.2.1), (pg + 5, (FX5_readJoin f_tp f_this f_prg f_prg_sender f_prg_sendLink f_prg_receiver f_prg_receiveLink).2.2.2.1), (pg + 6, (FX5_readJoin f_tp f_this f_prg f_prg_sender f_prg_sendLink f_prg_receiver f_prg_receiveLink).2.2.2.2.1), (pg + 7, (FX5_readJoin f_tp f_this f_prg f_prg_sender f_prg_sendLink f_prg_receiver f_prg_receiveLink).2.2.2.2.2.1), (pg + 8, (FX5_readJoin f_tp f_this f_prg f_prg_sender f_prg_sendLink f_prg_receiver f_prg_receiveLink).2.2.2.2.2.2)]) w)) : CQ (d + 5) 93 [.ref ro] (mH B (mE v [(tp, f_tp), (ro, f_this), (pg, f_prg), (pg + 5, f_prg_sender), (pg + 6, f_prg_sendLink), (pg + 7, f_prg_receiver), (pg + 8, f_prg_receiveLink)]) w) Q := by
  have hn : ∀ (f_tp : mF) (f_this : mF) (f_prg : mF) (f_prg_sender : mF) (f_prg_sendLink : mF) (f_prg_receiver : mF) (f_prg_receiveLink : mF), mNd [(tp, f_tp), (ro, f_this), (pg, f_prg), (pg + 5, f_prg_sender), (pg + 6, f_prg_sendLink), (pg + 7, f_prg_receiver), (pg + 8, f_prg_receiveLink)] := fun _ _ _ _ _ _ _ => by
    show List.Nodup _
    simp only [List.map_cons, List.map_nil, List.nodup_cons, List.mem_cons, List.not_mem_nil, or_false, not_or, not_false_eq_true, List.nodup_nil, and_true]
    omega
  obtain ⟨P, hPQ, hP⟩ : ∃ P : Int32 × mF × mF × mF × mF × mF × mF → Prop, (∀ (q : Int32) (q0 : mF) (q1 : mF) (q2 : mF) (q3 : mF) (q4 : mF) (q5 : mF), P (q, q0, q1, q2, q3, q4, q5) → Q (none) (mH B (mE v [(tp, f_tp), (ro, q0), (pg, q1), (pg + 5, q2), (pg + 6, q3), (pg + 7, q4), (pg + 8, q5)]) w)) ∧ P (FX5_readJoin f_tp f_this f_prg f_prg_sender f_prg_sendLink f_prg_receiver f_prg_receiveLink) := ⟨fun res => Q (none) (mH B (mE v [(tp, f_tp), (ro, res.2.1), (pg, res.2.2.1), (pg + 5, res.2.2.2.1), (pg + 6, res.2.2.2.2.1), (pg + 7, res.2.2.2.2.2.1), (pg + 8, res.2.2.2.2.2.2)]) w), fun _ _ _ _ _ _ _ h => h, hQ⟩
  refine r_begin mt_93 (by intro a ha; simp only [List.mem_cons, List.not_mem_nil, or_false] at ha; rcases ha with rfl <;> rfl) (Nat.le_of_ble_eq_true rfl) ?_
  rw [FX5_readJoin] at hP
  rw [OX5_readJoin] at hO
  show RB _ _ _ _ [some (.ref ro), none, none, none, none, none] [] _ _
  refine r_aload rfl ?_
  obtain ⟨h2, hO⟩ := hO
  have k51 := fun (Q' : Option Int32 → mMH → Prop) hq => tX5_scan (d := d + 1) (B := B) (v := mE v [(tp, f_tp), (ro, f_this), (pg, f_prg), (pg + 5, f_prg_sender), (pg + 6, f_prg_sendLink), (pg + 7, f_prg_receiver), (pg + 8, f_prg_receiveLink)]) (w := w) (Q := Q') hB (by omega) (by omega) f_tp f_this h2 hq
  generalize hg_u1 : FX5_scan f_tp f_this = u1 at k51 hP hO
  try dsimp only at hP hO
  refine r_callV (st := []) (o := ro) (as := []) (envc := [(tp, f_tp), (ro, f_this)]) (envc' := [(tp, f_tp), (ro, u1.2)]) (env' := [(tp, f_tp), (ro, u1.2), (pg, f_prg), (pg + 5, f_prg_sender), (pg + 6, f_prg_sendLink), (pg + 7, f_prg_receiver), (pg + 8, f_prg_receiveLink)]) (rv := none) [0, 1] (hn _ _ _ _ _ _ _) rfl rfl (Nat.le_of_ble_eq_true rfl) hB.1 rfl rfl rfl k51 ?_
  show RB _ _ _ _ _ [] _ _
  refine r_aload rfl ?_
  refine r_int ?_
  refine r_int ?_
  obtain ⟨h4, hO⟩ := hO
  have k50 := fun (Q' : Option Int32 → mMH → Prop) hq => tX5_takeNumber (d := d + 0) (B := B) (v := mE v [(tp, f_tp), (ro, u1.2), (pg, f_prg), (pg + 5, f_prg_sender), (pg + 6, f_prg_sendLink), (pg + 7, f_prg_receiver), (pg + 8, f_prg_receiveLink)]) (w := w) (Q := Q') hB (by omega) (by omega) 0 1 f_tp u1.2 h4 hq
  generalize hg_u3 : FX5_takeNumber 0 1 f_tp u1.2 = u3 at k50 hP hO
  try dsimp only at hP hO
  refine r_callV (st := []) (o := ro) (as := [.int 0, .int 1]) (envc := [(tp, f_tp), (ro, u1.2)]) (envc' := [(tp, f_tp), (ro, u3.2)]) (env' := [(tp, f_tp), (ro, u3.2), (pg, f_prg), (pg + 5, f_prg_sender), (pg + 6, f_prg_sendLink), (pg + 7, f_prg_receiver), (pg + 8, f_prg_receiveLink)]) (rv := some u3.1) [0, 1] (hn _ _ _ _ _ _ _) rfl rfl (Nat.le_of_ble_eq_true rfl) hB.1 rfl rfl rfl k50 ?_
  show RB _ _ _ _ _ [.int u3.1] _ _
  refine r_istore (L' := [some (.ref ro), some (.int u3.1), none, none, none, none]) rfl rfl ?_
  refine r_aload rfl ?_
  refine r_get (x := u3.2 6) 1 (hn _ _ _ _ _ _ _) rfl hB.1 (by decide) rfl ?_
  refine r_istore (L' := [some (.ref ro), some (.int u3.1), some (.int (u3.2 6)), none, none, none]) rfl rfl ?_
  refine r_aload rfl ?_
  refine r_int ?_
  refine r_int ?_
  obtain ⟨h6, hO⟩ := hO
  have k49 := fun (Q' : Option Int32 → mMH → Prop) hq => tX5_takeNumber (d := d + 0) (B := B) (v := mE v [(tp, f_tp), (ro, u3.2), (pg, f_prg), (pg + 5, f_prg_sender), (pg + 6, f_prg_sendLink), (pg + 7, f_prg_receiver), (pg + 8, f_prg_receiveLink)]) (w := w) (Q := Q') hB (by omega) (by omega) 0 1 f_tp u3.2 h6 hq
  generalize hg_u5 : FX5_takeNumber 0 1 f_tp u3.2 = u5 at k49 hP hO
  try dsimp only at hP hO
  refine r_callV (st := []) (o := ro) (as := [.int 0, .int 1]) (envc := [(tp, f_tp), (ro, u3.2)]) (envc' := [(tp, f_tp), (ro, u5.2)]) (env' := [(tp, f_tp), (ro, u5.2), (pg, f_prg), (pg + 5, f_prg_sender), (pg + 6, f_prg_sendLink), (pg + 7, f_prg_receiver), (pg + 8, f_prg_receiveLink)]) (rv := some u5.1) [0, 1] (hn _ _ _ _ _ _ _) rfl rfl (Nat.le_of_ble_eq_true rfl) hB.1 rfl rfl rfl k49 ?_
  show RB _ _ _ _ _ [.int u5.1] _ _
  refine r_istore (L' := [some (.ref ro), some (.int u3.1), some (.int (u3.2 6)), some (.int u5.1), none, none]) rfl rfl ?_
  refine r_aload rfl ?_
  refine r_getr (q := pg) hB.1 hB.2.2.2.2.2.2.2.2.2.1 ?_
  refine r_iload rfl ?_
  refine r_iload rfl ?_
  obtain ⟨h8, hO⟩ := hO
  have k48 := fun (Q' : Option Int32 → mMH → Prop) hq => tX4_isSending (d := d + 3) (B := B) (v := mE v [(tp, f_tp), (ro, u5.2), (pg, f_prg), (pg + 5, f_prg_sender), (pg + 6, f_prg_sendLink), (pg + 7, f_prg_receiver), (pg + 8, f_prg_receiveLink)]) (w := w) (Q := Q') hB.2.2.2.2.2.2.1 u3.1 u5.1 f_prg f_prg_sender f_prg_sendLink h8 hq
  generalize hg_u7 : FX4_isSending u3.1 u5.1 f_prg f_prg_sender f_prg_sendLink = u7 at k48 hP hO
  try dsimp only at hP hO
  refine r_callV (st := []) (o := pg) (as := [.int u3.1, .int u5.1]) (envc := [(pg, f_prg), (pg + 5, f_prg_sender), (pg + 6, f_prg_sendLink)]) (envc' := [(pg, f_prg), (pg + 5, f_prg_sender), (pg + 6, f_prg_sendLink)]) (env' := [(tp, f_tp), (ro, u5.2), (pg, f_prg), (pg + 5, f_prg_sender), (pg + 6, f_prg_sendLink), (pg + 7, f_prg_receiver), (pg + 8, f_prg_receiveLink)]) (rv := some u7) [2, 3, 4] (hn _ _ _ _ _ _ _) rfl rfl (Nat.le_of_ble_eq_true rfl) hB.2.2.2.2.2.2.1.1 rfl rfl rfl k48 ?_
  show RB _ _ _ _ _ [.int u7] _ _
  refine r_if (fun c9 : u7 = 0 => ?_) (fun c9 : ¬ (u7 = 0) => ?_)
  · rw [if_pos c9] at hP
    have hO := hO.1 c9
    refine r_aload rfl ?_
    refine r_int ?_
    refine r_int ?_
    obtain ⟨h11, hO⟩ := hO
    have k27 := fun (Q' : Option Int32 → mMH → Prop) hq => tX5_takeNumber (d := d + 0) (B := B) (v := mE v [(tp, f_tp), (ro, u5.2), (pg, f_prg), (pg + 5, f_prg_sender), (pg + 6, f_prg_sendLink), (pg + 7, f_prg_receiver), (pg + 8, f_prg_receiveLink)]) (w := w) (Q := Q') hB (by omega) (by omega) 0 1 f_tp u5.2 h11 hq
    generalize hg_u10 : FX5_takeNumber 0 1 f_tp u5.2 = u10 at k27 hP hO
    try dsimp only at hP hO
    refine r_callV (st := []) (o := ro) (as := [.int 0, .int 1]) (envc := [(tp, f_tp), (ro, u5.2)]) (envc' := [(tp, f_tp), (ro, u10.2)]) (env' := [(tp, f_tp), (ro, u10.2), (pg, f_prg), (pg + 5, f_prg_sender), (pg + 6, f_prg_sendLink), (pg + 7, f_prg_receiver), (pg + 8, f_prg_receiveLink)]) (rv := some u10.1) [0, 1] (hn _ _ _ _ _ _ _) rfl rfl (Nat.le_of_ble_eq_true rfl) hB.1 rfl rfl rfl k27 ?_
    show RB _ _ _ _ _ [.int u10.1] _ _
    refine r_istore (L' := [some (.ref ro), some (.int u3.1), some (.int (u3.2 6)), some (.int u5.1), some (.int u10.1), none]) rfl rfl ?_
    refine r_aload rfl ?_
    refine r_get (x := u10.2 6) 1 (hn _ _ _ _ _ _ _) rfl hB.1 (by decide) rfl ?_
    refine r_istore (L' := [some (.ref ro), some (.int u3.1), some (.int (u10.2 6)), some (.int u5.1), some (.int u10.1), none]) rfl rfl ?_
    refine r_aload rfl ?_
    refine r_int ?_
    refine r_int ?_
    obtain ⟨h13, hO⟩ := hO
    have k26 := fun (Q' : Option Int32 → mMH → Prop) hq => tX5_takeNumber (d := d + 0) (B := B) (v := mE v [(tp, f_tp), (ro, u10.2), (pg, f_prg), (pg + 5, f_prg_sender), (pg + 6, f_prg_sendLink), (pg + 7, f_prg_receiver), (pg + 8, f_prg_receiveLink)]) (w := w) (Q := Q') hB (by omega) (by omega) 0 1 f_tp u10.2 h13 hq
    generalize hg_u12 : FX5_takeNumber 0 1 f_tp u10.2 = u12 at k26 hP hO
    try dsimp only at hP hO
    refine r_callV (st := []) (o := ro) (as := [.int 0, .int 1]) (envc := [(tp, f_tp), (ro, u10.2)]) (envc' := [(tp, f_tp), (ro, u12.2)]) (env' := [(tp, f_tp), (ro, u12.2), (pg, f_prg), (pg + 5, f_prg_sender), (pg + 6, f_prg_sendLink), (pg + 7, f_prg_receiver), (pg + 8, f_prg_receiveLink)]) (rv := some u12.1) [0, 1] (hn _ _ _ _ _ _ _) rfl rfl (Nat.le_of_ble_eq_true rfl) hB.1 rfl rfl rfl k26 ?_
    show RB _ _ _ _ _ [.int u12.1] _ _
    refine r_istore (L' := [some (.ref ro), some (.int u3.1), some (.int (u10.2 6)), some (.int u5.1), some (.int u10.1), some (.int u12.1)]) rfl rfl ?_
    refine r_aload rfl ?_
    refine r_getr (q := pg) hB.1 hB.2.2.2.2.2.2.2.2.2.1 ?_
    refine r_iload rfl ?_
    refine r_iload rfl ?_
    obtain ⟨h15, hO⟩ := hO
    have k25 := fun (Q' : Option Int32 → mMH → Prop) hq => tX4_isReceiving (d := d + 3) (B := B) (v := mE v [(tp, f_tp), (ro, u12.2), (pg, f_prg), (pg + 5, f_prg_sender), (pg + 6, f_prg_sendLink), (pg + 7, f_prg_receiver), (pg + 8, f_prg_receiveLink)]) (w := w) (Q := Q') hB.2.2.2.2.2.2.1 u10.1 u12.1 f_prg f_prg_receiver f_prg_receiveLink h15 hq
    generalize hg_u14 : FX4_isReceiving u10.1 u12.1 f_prg f_prg_receiver f_prg_receiveLink = u14 at k25 hP hO
    try dsimp only at hP hO
    refine r_callV (st := []) (o := pg) (as := [.int u10.1, .int u12.1]) (envc := [(pg, f_prg), (pg + 7, f_prg_receiver), (pg + 8, f_prg_receiveLink)]) (envc' := [(pg, f_prg), (pg + 7, f_prg_receiver), (pg + 8, f_prg_receiveLink)]) (env' := [(tp, f_tp), (ro, u12.2), (pg, f_prg), (pg + 5, f_prg_sender), (pg + 6, f_prg_sendLink), (pg + 7, f_prg_receiver), (pg + 8, f_prg_receiveLink)]) (rv := some u14) [2, 5, 6] (hn _ _ _ _ _ _ _) rfl rfl (Nat.le_of_ble_eq_true rfl) hB.2.2.2.2.2.2.1.1 rfl rfl rfl k25 ?_
    show RB _ _ _ _ _ [.int u14] _ _
    refine r_if (fun c16 : u14 = 0 => ?_) (fun c16 : ¬ (u14 = 0) => ?_)
    · rw [if_pos c16] at hP
      have hO := hO.1 c16
      refine r_aload rfl ?_
      refine r_getr (q := pg) hB.1 hB.2.2.2.2.2.2.2.2.2.1 ?_
      refine r_iload rfl ?_
      refine r_iload rfl ?_
      refine r_iload rfl ?_
      refine r_iload rfl ?_
      have h18 := hO
      have k19 := fun (Q' : Option Int32 → mMH → Prop) hq => tX4_addJoin (d := d + 3) (B := B) (v := mE v [(tp, f_tp), (ro, u12.2), (pg, f_prg), (pg + 5, f_prg_sender), (pg + 6, f_prg_sendLink), (pg + 7, f_prg_receiver), (pg + 8, f_prg_receiveLink)]) (w := w) (Q := Q') hB.2.2.2.2.2.2.1 u3.1 u5.1 u10.1 u12.1 f_prg f_prg_sender f_prg_sendLink f_prg_receiver f_prg_receiveLink h18 hq
      generalize hg_u17 : FX4_addJoin u3.1 u5.1 u10.1 u12.1 f_prg f_prg_sender f_prg_sendLink f_prg_receiver f_prg_receiveLink = u17 at k19 hP
      try dsimp only at hP
      refine r_callV (st := []) (o := pg) (as := [.int u3.1, .int u5.1, .int u10.1, .int u12.1]) (envc := [(pg, f_prg), (pg + 5, f_prg_sender), (pg + 6, f_prg_sendLink), (pg + 7, f_prg_receiver), (pg + 8, f_prg_receiveLink)]) (envc' := [(pg, u17.2.1), (pg + 5, u17.2.2.1), (pg + 6, u17.2.2.2.1), (pg + 7, u17.2.2.2.2.1), (pg + 8, u17.2.2.2.2.2)]) (env' := [(tp, f_tp), (ro, u12.2), (pg, u17.2.1), (pg + 5, u17.2.2.1), (pg + 6, u17.2.2.2.1), (pg + 7, u17.2.2.2.2.1), (pg + 8, u17.2.2.2.2.2)]) (rv := none) [2, 3, 4, 5, 6] (hn _ _ _ _ _ _ _) rfl rfl (Nat.le_of_ble_eq_true rfl) hB.2.2.2.2.2.2.1.1 rfl rfl rfl k19 ?_
      show RB _ _ _ _ _ [] _ _
      exact r_retv rfl (hPQ 0 u12.2 u17.2.1 u17.2.2.1 u17.2.2.2.1 u17.2.2.2.2.1 u17.2.2.2.2.2 hP)
    · rw [if_neg c16] at hP
      have hO := hO.2 c16
      refine r_aload rfl ?_
      refine r_iload rfl ?_
      refine r_int ?_
      have k24 := fun (Q' : Option Int32 → mMH → Prop) hq => tX5_fail (d := d + 3) (B := B) (v := mE v [(tp, f_tp), (ro, u12.2), (pg, f_prg), (pg + 5, f_prg_sender), (pg + 6, f_prg_sendLink), (pg + 7, f_prg_receiver), (pg + 8, f_prg_receiveLink)]) (w := w) (Q := Q') hB (by omega) (by omega) (u10.2 6) 2 u12.2 hq
      generalize hg_u20 : FX5_fail (u10.2 6) 2 u12.2 = u20 at k24 hP hO
      try dsimp only at hP hO
      refine r_callV (st := []) (o := ro) (as := [.int (u10.2 6), .int 2]) (envc := [(ro, u12.2)]) (envc' := [(ro, u20.2)]) (env' := [(tp, f_tp), (ro, u20.2), (pg, f_prg), (pg + 5, f_prg_sender), (pg + 6, f_prg_sendLink), (pg + 7, f_prg_receiver), (pg + 8, f_prg_receiveLink)]) (rv := none) [1] (hn _ _ _ _ _ _ _) rfl rfl (Nat.le_of_ble_eq_true rfl) hB.1 rfl rfl rfl k24 ?_
      show RB _ _ _ _ _ [] _ _
      refine r_fall ?_
      refine r_aload rfl ?_
      refine r_getr (q := pg) hB.1 hB.2.2.2.2.2.2.2.2.2.1 ?_
      refine r_iload rfl ?_
      refine r_iload rfl ?_
      refine r_iload rfl ?_
      refine r_iload rfl ?_
      have h22 := hO
      have k23 := fun (Q' : Option Int32 → mMH → Prop) hq => tX4_addJoin (d := d + 3) (B := B) (v := mE v [(tp, f_tp), (ro, u20.2), (pg, f_prg), (pg + 5, f_prg_sender), (pg + 6, f_prg_sendLink), (pg + 7, f_prg_receiver), (pg + 8, f_prg_receiveLink)]) (w := w) (Q := Q') hB.2.2.2.2.2.2.1 u3.1 u5.1 u10.1 u12.1 f_prg f_prg_sender f_prg_sendLink f_prg_receiver f_prg_receiveLink h22 hq
      generalize hg_u21 : FX4_addJoin u3.1 u5.1 u10.1 u12.1 f_prg f_prg_sender f_prg_sendLink f_prg_receiver f_prg_receiveLink = u21 at k23 hP
      try dsimp only at hP
      refine r_callV (st := []) (o := pg) (as := [.int u3.1, .int u5.1, .int u10.1, .int u12.1]) (envc := [(pg, f_prg), (pg + 5, f_prg_sender), (pg + 6, f_prg_sendLink), (pg + 7, f_prg_receiver), (pg + 8, f_prg_receiveLink)]) (envc' := [(pg, u21.2.1), (pg + 5, u21.2.2.1), (pg + 6, u21.2.2.2.1), (pg + 7, u21.2.2.2.2.1), (pg + 8, u21.2.2.2.2.2)]) (env' := [(tp, f_tp), (ro, u20.2), (pg, u21.2.1), (pg + 5, u21.2.2.1), (pg + 6, u21.2.2.2.1), (pg + 7, u21.2.2.2.2.1), (pg + 8, u21.2.2.2.2.2)]) (rv := none) [2, 3, 4, 5, 6] (hn _ _ _ _ _ _ _) rfl rfl (Nat.le_of_ble_eq_true rfl) hB.2.2.2.2.2.2.1.1 rfl rfl rfl k23 ?_
      show RB _ _ _ _ _ [] _ _
      exact r_retv rfl (hPQ 0 u20.2 u21.2.1 u21.2.2.1 u21.2.2.2.1 u21.2.2.2.2.1 u21.2.2.2.2.2 hP)
  · rw [if_neg c9] at hP
    have hO := hO.2 c9
    refine r_aload rfl ?_
    refine r_iload rfl ?_
    refine r_int ?_
    have k47 := fun (Q' : Option Int32 → mMH → Prop) hq => tX5_fail (d := d + 3) (B := B) (v := mE v [(tp, f_tp), (ro, u5.2), (pg, f_prg), (pg + 5, f_prg_sender), (pg + 6, f_prg_sendLink), (pg + 7, f_prg_receiver), (pg + 8, f_prg_receiveLink)]) (w := w) (Q := Q') hB (by omega) (by omega) (u3.2 6) 2 u5.2 hq
    generalize hg_u28 : FX5_fail (u3.2 6) 2 u5.2 = u28 at k47 hP hO
    try dsimp only at hP hO
    refine r_callV (st := []) (o := ro) (as := [.int (u3.2 6), .int 2]) (envc := [(ro, u5.2)]) (envc' := [(ro, u28.2)]) (env' := [(tp, f_tp), (ro, u28.2), (pg, f_prg), (pg + 5, f_prg_sender), (pg + 6, f_prg_sendLink), (pg + 7, f_prg_receiver), (pg + 8, f_prg_receiveLink)]) (rv := none) [1] (hn _ _ _ _ _ _ _) rfl rfl (Nat.le_of_ble_eq_true rfl) hB.1 rfl rfl rfl k47 ?_
    show RB _ _ _ _ _ [] _ _
    refine r_fall ?_
    refine r_aload rfl ?_
    refine r_int ?_
    refine r_int ?_
    obtain ⟨h30, hO⟩ := hO
    have k46 := fun (Q' : Option Int32 → mMH → Prop) hq => tX5_takeNumber (d := d + 0) (B := B) (v := mE v [(tp, f_tp), (ro, u28.2), (pg, f_prg), (pg + 5, f_prg_sender), (pg + 6, f_prg_sendLink), (pg + 7, f_prg_receiver), (pg + 8, f_prg_receiveLink)]) (w := w) (Q := Q') hB (by omega) (by omega) 0 1 f_tp u28.2 h30 hq
    generalize hg_u29 : FX5_takeNumber 0 1 f_tp u28.2 = u29 at k46 hP hO
    try dsimp only at hP hO
    refine r_callV (st := []) (o := ro) (as := [.int 0, .int 1]) (envc := [(tp, f_tp), (ro, u28.2)]) (envc' := [(tp, f_tp), (ro, u29.2)]) (env' := [(tp, f_tp), (ro, u29.2), (pg, f_prg), (pg + 5, f_prg_sender), (pg + 6, f_prg_sendLink), (pg + 7, f_prg_receiver), (pg + 8, f_prg_receiveLink)]) (rv := some u29.1) [0, 1] (hn _ _ _ _ _ _ _) rfl rfl (Nat.le_of_ble_eq_true rfl) hB.1 rfl rfl rfl k46 ?_
    show RB _ _ _ _ _ [.int u29.1] _ _
    refine r_istore (L' := [some (.ref ro), some (.int u3.1), some (.int (u3.2 6)), some (.int u5.1), some (.int u29.1), none]) rfl rfl ?_
    refine r_aload rfl ?_
    refine r_get (x := u29.2 6) 1 (hn _ _ _ _ _ _ _) rfl hB.1 (by decide) rfl ?_
    refine r_istore (L' := [some (.ref ro), some (.int u3.1), some (.int (u29.2 6)), some (.int u5.1), some (.int u29.1), none]) rfl rfl ?_
    refine r_aload rfl ?_
    refine r_int ?_
    refine r_int ?_
    obtain ⟨h32, hO⟩ := hO
    have k45 := fun (Q' : Option Int32 → mMH → Prop) hq => tX5_takeNumber (d := d + 0) (B := B) (v := mE v [(tp, f_tp), (ro, u29.2), (pg, f_prg), (pg + 5, f_prg_sender), (pg + 6, f_prg_sendLink), (pg + 7, f_prg_receiver), (pg + 8, f_prg_receiveLink)]) (w := w) (Q := Q') hB (by omega) (by omega) 0 1 f_tp u29.2 h32 hq
    generalize hg_u31 : FX5_takeNumber 0 1 f_tp u29.2 = u31 at k45 hP hO
    try dsimp only at hP hO
    refine r_callV (st := []) (o := ro) (as := [.int 0, .int 1]) (envc := [(tp, f_tp), (ro, u29.2)]) (envc' := [(tp, f_tp), (ro, u31.2)]) (env' := [(tp, f_tp), (ro, u31.2), (pg, f_prg), (pg + 5, f_prg_sender), (pg + 6, f_prg_sendLink), (pg + 7, f_prg_receiver), (pg + 8, f_prg_receiveLink)]) (rv := some u31.1) [0, 1] (hn _ _ _ _ _ _ _) rfl rfl (Nat.le_of_ble_eq_true rfl) hB.1 rfl rfl rfl k45 ?_
    show RB _ _ _ _ _ [.int u31.1] _ _
    refine r_istore (L' := [some (.ref ro), some (.int u3.1), some (.int (u29.2 6)), some (.int u5.1), some (.int u29.1), some (.int u31.1)]) rfl rfl ?_
    refine r_aload rfl ?_
    refine r_getr (q := pg) hB.1 hB.2.2.2.2.2.2.2.2.2.1 ?_
    refine r_iload rfl ?_
    refine r_iload rfl ?_
    obtain ⟨h34, hO⟩ := hO
    have k44 := fun (Q' : Option Int32 → mMH → Prop) hq => tX4_isReceiving (d := d + 3) (B := B) (v := mE v [(tp, f_tp), (ro, u31.2), (pg, f_prg), (pg + 5, f_prg_sender), (pg + 6, f_prg_sendLink), (pg + 7, f_prg_receiver), (pg + 8, f_prg_receiveLink)]) (w := w) (Q := Q') hB.2.2.2.2.2.2.1 u29.1 u31.1 f_prg f_prg_receiver f_prg_receiveLink h34 hq
    generalize hg_u33 : FX4_isReceiving u29.1 u31.1 f_prg f_prg_receiver f_prg_receiveLink = u33 at k44 hP hO
    try dsimp only at hP hO
    refine r_callV (st := []) (o := pg) (as := [.int u29.1, .int u31.1]) (envc := [(pg, f_prg), (pg + 7, f_prg_receiver), (pg + 8, f_prg_receiveLink)]) (envc' := [(pg, f_prg), (pg + 7, f_prg_receiver), (pg + 8, f_prg_receiveLink)]) (env' := [(tp, f_tp), (ro, u31.2), (pg, f_prg), (pg + 5, f_prg_sender), (pg + 6, f_prg_sendLink), (pg + 7, f_prg_receiver), (pg + 8, f_prg_receiveLink)]) (rv := some u33) [2, 5, 6] (hn _ _ _ _ _ _ _) rfl rfl (Nat.le_of_ble_eq_true rfl) hB.2.2.2.2.2.2.1.1 rfl rfl rfl k44 ?_
    show RB _ _ _ _ _ [.int u33] _ _
    refine r_if (fun c35 : u33 = 0 => ?_) (fun c35 : ¬ (u33 = 0) => ?_)
    · rw [if_pos c35] at hP
      have hO := hO.1 c35
      refine r_aload rfl ?_
      refine r_getr (q := pg) hB.1 hB.2.2.2.2.2.2.2.2.2.1 ?_
      refine r_iload rfl ?_
      refine r_iload rfl ?_
      refine r_iload rfl ?_
      refine r_iload rfl ?_
      have h37 := hO
      have k38 := fun (Q' : Option Int32 → mMH → Prop) hq => tX4_addJoin (d := d + 3) (B := B) (v := mE v [(tp, f_tp), (ro, u31.2), (pg, f_prg), (pg + 5, f_prg_sender), (pg + 6, f_prg_sendLink), (pg + 7, f_prg_receiver), (pg + 8, f_prg_receiveLink)]) (w := w) (Q := Q') hB.2.2.2.2.2.2.1 u3.1 u5.1 u29.1 u31.1 f_prg f_prg_sender f_prg_sendLink f_prg_receiver f_prg_receiveLink h37 hq
      generalize hg_u36 : FX4_addJoin u3.1 u5.1 u29.1 u31.1 f_prg f_prg_sender f_prg_sendLink f_prg_receiver f_prg_receiveLink = u36 at k38 hP
      try dsimp only at hP
      refine r_callV (st := []) (o := pg) (as := [.int u3.1, .int u5.1, .int u29.1, .int u31.1]) (envc := [(pg, f_prg), (pg + 5, f_prg_sender), (pg + 6, f_prg_sendLink), (pg + 7, f_prg_receiver), (pg + 8, f_prg_receiveLink)]) (envc' := [(pg, u36.2.1), (pg + 5, u36.2.2.1), (pg + 6, u36.2.2.2.1), (pg + 7, u36.2.2.2.2.1), (pg + 8, u36.2.2.2.2.2)]) (env' := [(tp, f_tp), (ro, u31.2), (pg, u36.2.1), (pg + 5, u36.2.2.1), (pg + 6, u36.2.2.2.1), (pg + 7, u36.2.2.2.2.1), (pg + 8, u36.2.2.2.2.2)]) (rv := none) [2, 3, 4, 5, 6] (hn _ _ _ _ _ _ _) rfl rfl (Nat.le_of_ble_eq_true rfl) hB.2.2.2.2.2.2.1.1 rfl rfl rfl k38 ?_
      show RB _ _ _ _ _ [] _ _
      exact r_retv rfl (hPQ 0 u31.2 u36.2.1 u36.2.2.1 u36.2.2.2.1 u36.2.2.2.2.1 u36.2.2.2.2.2 hP)
    · rw [if_neg c35] at hP
      have hO := hO.2 c35
      refine r_aload rfl ?_
      refine r_iload rfl ?_
      refine r_int ?_
      have k43 := fun (Q' : Option Int32 → mMH → Prop) hq => tX5_fail (d := d + 3) (B := B) (v := mE v [(tp, f_tp), (ro, u31.2), (pg, f_prg), (pg + 5, f_prg_sender), (pg + 6, f_prg_sendLink), (pg + 7, f_prg_receiver), (pg + 8, f_prg_receiveLink)]) (w := w) (Q := Q') hB (by omega) (by omega) (u29.2 6) 2 u31.2 hq
      generalize hg_u39 : FX5_fail (u29.2 6) 2 u31.2 = u39 at k43 hP hO
      try dsimp only at hP hO
      refine r_callV (st := []) (o := ro) (as := [.int (u29.2 6), .int 2]) (envc := [(ro, u31.2)]) (envc' := [(ro, u39.2)]) (env' := [(tp, f_tp), (ro, u39.2), (pg, f_prg), (pg + 5, f_prg_sender), (pg + 6, f_prg_sendLink), (pg + 7, f_prg_receiver), (pg + 8, f_prg_receiveLink)]) (rv := none) [1] (hn _ _ _ _ _ _ _) rfl rfl (Nat.le_of_ble_eq_true rfl) hB.1 rfl rfl rfl k43 ?_
      show RB _ _ _ _ _ [] _ _
      refine r_fall ?_
      refine r_aload rfl ?_
      refine r_getr (q := pg) hB.1 hB.2.2.2.2.2.2.2.2.2.1 ?_
      refine r_iload rfl ?_
      refine r_iload rfl ?_
      refine r_iload rfl ?_
      refine r_iload rfl ?_
      have h41 := hO
      have k42 := fun (Q' : Option Int32 → mMH → Prop) hq => tX4_addJoin (d := d + 3) (B := B) (v := mE v [(tp, f_tp), (ro, u39.2), (pg, f_prg), (pg + 5, f_prg_sender), (pg + 6, f_prg_sendLink), (pg + 7, f_prg_receiver), (pg + 8, f_prg_receiveLink)]) (w := w) (Q := Q') hB.2.2.2.2.2.2.1 u3.1 u5.1 u29.1 u31.1 f_prg f_prg_sender f_prg_sendLink f_prg_receiver f_prg_receiveLink h41 hq
      generalize hg_u40 : FX4_addJoin u3.1 u5.1 u29.1 u31.1 f_prg f_prg_sender f_prg_sendLink f_prg_receiver f_prg_receiveLink = u40 at k42 hP
      try dsimp only at hP
      refine r_callV (st := []) (o := pg) (as := [.int u3.1, .int u5.1, .int u29.1, .int u31.1]) (envc := [(pg, f_prg), (pg + 5, f_prg_sender), (pg + 6, f_prg_sendLink), (pg + 7, f_prg_receiver), (pg + 8, f_prg_receiveLink)]) (envc' := [(pg, u40.2.1), (pg + 5, u40.2.2.1), (pg + 6, u40.2.2.2.1), (pg + 7, u40.2.2.2.2.1), (pg + 8, u40.2.2.2.2.2)]) (env' := [(tp, f_tp), (ro, u39.2), (pg, u40.2.1), (pg + 5, u40.2.2.1), (pg + 6, u40.2.2.2.1), (pg + 7, u40.2.2.2.2.1), (pg + 8, u40.2.2.2.2.2)]) (rv := none) [2, 3, 4, 5, 6] (hn _ _ _ _ _ _ _) rfl rfl (Nat.le_of_ble_eq_true rfl) hB.2.2.2.2.2.2.1.1 rfl rfl rfl k42 ?_
      show RB _ _ _ _ _ [] _ _
      exact r_retv rfl (hPQ 0 u39.2 u40.2.1 u40.2.2.1 u40.2.2.2.1 u40.2.2.2.2.1 u40.2.2.2.2.2 hP)

def FX5_readRun (f_tp : mF) (f_this : mF) (f_names : mF) (f_useName : mF) (f_usePlace : mF) (f_user : mF) (f_prg : mF) (f_prg_runMachine : mF) (f_prg_runW : mF) (f_prg_runPriority : mF) (f_prg_runAt : mF) : Int32 × mF × mF × mF × mF × mF × mF × mF × mF × mF :=
  if (f_prg 12) < 12 then (let u2 := FX5_scan f_tp f_this; let u4 := FX5_takeNumber 0 1 f_tp u2.2; let u6 := FX5_takeNumber 5 95 f_tp u4.2; let u8 := FX5_takeNumber 0 1 f_tp u6.2; let u10 := FX5_takeUse (100 + (f_prg 12)) f_tp u8.2 f_names f_useName f_usePlace f_user; let u12 := FX4_addRun u4.1 u6.1 u8.1 f_prg f_prg_runMachine f_prg_runW f_prg_runPriority f_prg_runAt; (0, u10.2.1, u10.2.2.1, u10.2.2.2.1, u10.2.2.2.2, u12.2.1, u12.2.2.1, u12.2.2.2.1, u12.2.2.2.2.1, u12.2.2.2.2.2)) else (let u20 := FX5_fail (f_this 6) 4 f_this; (0, u20.2, f_useName, f_usePlace, f_user, f_prg, f_prg_runMachine, f_prg_runW, f_prg_runPriority, f_prg_runAt))
def OX5_readRun (f_tp : mF) (f_this : mF) (f_names : mF) (f_useName : mF) (f_usePlace : mF) (f_user : mF) (f_prg : mF) (f_prg_runMachine : mF) (f_prg_runW : mF) (f_prg_runPriority : mF) (f_prg_runAt : mF) : Prop :=
  ((f_prg 12) < 12 → (OX5_scan f_tp f_this ∧ (let u2 := FX5_scan f_tp f_this; OX5_takeNumber 0 1 f_tp u2.2 ∧ (let u4 := FX5_takeNumber 0 1 f_tp u2.2; OX5_takeNumber 5 95 f_tp u4.2 ∧ (let u6 := FX5_takeNumber 5 95 f_tp u4.2; OX5_takeNumber 0 1 f_tp u6.2 ∧ (let u8 := FX5_takeNumber 0 1 f_tp u6.2; OX5_takeUse (100 + (f_prg 12)) f_tp u8.2 f_names f_useName f_usePlace f_user ∧ (let u10 := FX5_takeUse (100 + (f_prg 12)) f_tp u8.2 f_names f_useName f_usePlace f_user; OX4_addRun u4.1 u6.1 u8.1 f_prg f_prg_runMachine f_prg_runW f_prg_runPriority f_prg_runAt))))))) ∧ (¬ ((f_prg 12) < 12) → True)
set_option maxRecDepth 20000 in
theorem tX5_readRun {d : Nat} {B : mB} {v : mV} {w : mX} {Q : Option Int32 → mMH → Prop} {ro tp pg : Nat} (hB : isRead B ro tp pg) (ht : tp < ro) (hpg : ro + 20 ≤ pg) (f_tp : mF) (f_this : mF) (f_names : mF) (f_useName : mF) (f_usePlace : mF) (f_user : mF) (f_prg : mF) (f_prg_runMachine : mF) (f_prg_runW : mF) (f_prg_runPriority : mF) (f_prg_runAt : mF) (hO : OX5_readRun f_tp f_this f_names f_useName f_usePlace f_user f_prg f_prg_runMachine f_prg_runW f_prg_runPriority f_prg_runAt) (hQ : Q (none) (mH B (mE v [(tp, f_tp), (ro, (FX5_readRun f_tp f_this f_names f_useName f_usePlace f_user f_prg f_prg_runMachine f_prg_runW f_prg_runPriority f_prg_runAt).2.1), (ro + 1, f_names), (ro + 17, (FX5_readRun f_tp f_this f_names f_useName f_usePlace f_user f_prg f_prg_runMachine f_prg_runW f_prg_runPriority f_prg_runAt).2.2.1), (ro + 18, (FX5_readRun f_tp f_this f_names f_useName f_usePlace f_user f_prg f_prg_runMachine f_prg_runW f_prg_runPriority f_prg_runAt).2.2.2.1), (ro + 19, (FX5_readRun f_tp f_this f_names f_useName f_usePlace f_user f_prg f_prg_runMachine f_prg_runW f_prg_runPriority f_prg_runAt).2.2.2.2.1), (pg, (FX5_readRun f_tp f_this f_names f_useName f_usePlace f_user f_prg f_prg_runMachine f_prg_runW f_prg_runPriority f_prg_runAt).2.2.2.2.2.1), (pg + 9, (FX5_readRun f_tp f_this f_names f_useName f_usePlace f_user f_prg f_prg_runMachine f_prg_runW f_prg_runPriority f_prg_runAt).2.2.2.2.2.2.1), (pg + 10, (FX5_readRun f_tp f_this f_names f_useName f_usePlace f_user f_prg f_prg_runMachine f_prg_runW f_prg_runPriority f_prg_runAt).2.2.2.2.2.2.2.1), (pg + 11, (FX5_readRun f_tp f_this f_names f_useName f_usePlace f_user f_prg f_prg_runMachine f_prg_runW f_prg_runPriority f_prg_runAt).2.2.2.2.2.2.2.2.1), (pg + 12, (FX5_readRun f_tp f_this f_names f_useName f_usePlace f_user f_prg f_prg_runMachine f_prg_runW f_prg_runPriority f_prg_runAt).2.2.2.2.2.2.2.2.2)]) w)) : CQ (d + 5) 94 [.ref ro] (mH B (mE v [(tp, f_tp), (ro, f_this), (ro + 1, f_names), (ro + 17, f_useName), (ro + 18, f_usePlace), (ro + 19, f_user), (pg, f_prg), (pg + 9, f_prg_runMachine), (pg + 10, f_prg_runW), (pg + 11, f_prg_runPriority), (pg + 12, f_prg_runAt)]) w) Q := by
  have hn : ∀ (f_tp : mF) (f_this : mF) (f_names : mF) (f_useName : mF) (f_usePlace : mF) (f_user : mF) (f_prg : mF) (f_prg_runMachine : mF) (f_prg_runW : mF) (f_prg_runPriority : mF) (f_prg_runAt : mF), mNd [(tp, f_tp), (ro, f_this), (ro + 1, f_names), (ro + 17, f_useName), (ro + 18, f_usePlace), (ro + 19, f_user), (pg, f_prg), (pg + 9, f_prg_runMachine), (pg + 10, f_prg_runW), (pg + 11, f_prg_runPriority), (pg + 12, f_prg_runAt)] := fun _ _ _ _ _ _ _ _ _ _ _ => by
    show List.Nodup _
    simp only [List.map_cons, List.map_nil, List.nodup_cons, List.mem_cons, List.not_mem_nil, or_false, not_or, not_false_eq_true, List.nodup_nil, and_true]
    omega
  obtain ⟨P, hPQ, hP⟩ : ∃ P : Int32 × mF × mF × mF × mF × mF × mF × mF × mF × mF → Prop, (∀ (q : Int32) (q0 : mF) (q1 : mF) (q2 : mF) (q3 : mF) (q4 : mF) (q5 : mF) (q6 : mF) (q7 : mF) (q8 : mF), P (q, q0, q1, q2, q3, q4, q5, q6, q7, q8) → Q (none) (mH B (mE v [(tp, f_tp), (ro, q0), (ro + 1, f_names), (ro + 17, q1), (ro + 18, q2), (ro + 19, q3), (pg, q4), (pg + 9, q5), (pg + 10, q6), (pg + 11, q7), (pg + 12, q8)]) w)) ∧ P (FX5_readRun f_tp f_this f_names f_useName f_usePlace f_user f_prg f_prg_runMachine f_prg_runW f_prg_runPriority f_prg_runAt) := ⟨fun res => Q (none) (mH B (mE v [(tp, f_tp), (ro, res.2.1), (ro + 1, f_names), (ro + 17, res.2.2.1), (ro + 18, res.2.2.2.1), (ro + 19, res.2.2.2.2.1), (pg, res.2.2.2.2.2.1), (pg + 9, res.2.2.2.2.2.2.1), (pg + 10, res.2.2.2.2.2.2.2.1), (pg + 11, res.2.2.2.2.2.2.2.2.1), (pg + 12, res.2.2.2.2.2.2.2.2.2)]) w), fun _ _ _ _ _ _ _ _ _ _ h => h, hQ⟩
  refine r_begin mt_94 (by intro a ha; simp only [List.mem_cons, List.not_mem_nil, or_false] at ha; rcases ha with rfl <;> rfl) (Nat.le_of_ble_eq_true rfl) ?_
  rw [FX5_readRun] at hP
  rw [OX5_readRun] at hO
  show RB _ _ _ _ [some (.ref ro), none, none, none] [] _ _
  refine r_aload rfl ?_
  refine r_getr (q := pg) hB.1 hB.2.2.2.2.2.2.2.2.2.1 ?_
  refine r_get (x := f_prg 12) 6 (hn _ _ _ _ _ _ _ _ _ _ _) rfl hB.2.2.2.2.2.2.1.1 (by decide) rfl ?_
  refine r_int ?_
  refine r_icmp (fun c1 : (f_prg 12) < 12 => ?_) (fun c1 : ¬ ((f_prg 12) < 12) => ?_)
  · rw [if_pos c1] at hP
    have hO := hO.1 c1
    refine r_aload rfl ?_
    obtain ⟨h3, hO⟩ := hO
    have k19 := fun (Q' : Option Int32 → mMH → Prop) hq => tX5_scan (d := d + 1) (B := B) (v := mE v [(tp, f_tp), (ro, f_this), (ro + 1, f_names), (ro + 17, f_useName), (ro + 18, f_usePlace), (ro + 19, f_user), (pg, f_prg), (pg + 9, f_prg_runMachine), (pg + 10, f_prg_runW), (pg + 11, f_prg_runPriority), (pg + 12, f_prg_runAt)]) (w := w) (Q := Q') hB (by omega) (by omega) f_tp f_this h3 hq
    generalize hg_u2 : FX5_scan f_tp f_this = u2 at k19 hP hO
    try dsimp only at hP hO
    refine r_callM (st := []) (o := ro) (as := []) (envc := [(tp, f_tp), (ro, f_this)]) (envc' := [(tp, f_tp), (ro, u2.2)]) (env' := [(tp, f_tp), (ro, u2.2), (ro + 1, f_names), (ro + 17, f_useName), (ro + 18, f_usePlace), (ro + 19, f_user), (pg, f_prg), (pg + 9, f_prg_runMachine), (pg + 10, f_prg_runW), (pg + 11, f_prg_runPriority), (pg + 12, f_prg_runAt)]) (rv := none) [true, true, false, false, false, false, false, false, false, false, false] (hn _ _ _ _ _ _ _ _ _ _ _) rfl rfl (Nat.le_of_ble_eq_true rfl) hB.1 rfl [tp, ro] rfl rfl rfl k19 ?_
    show RB _ _ _ _ _ [] _ _
    refine r_aload rfl ?_
    refine r_int ?_
    refine r_int ?_
    obtain ⟨h5, hO⟩ := hO
    have k18 := fun (Q' : Option Int32 → mMH → Prop) hq => tX5_takeNumber (d := d + 0) (B := B) (v := mE v [(tp, f_tp), (ro, u2.2), (ro + 1, f_names), (ro + 17, f_useName), (ro + 18, f_usePlace), (ro + 19, f_user), (pg, f_prg), (pg + 9, f_prg_runMachine), (pg + 10, f_prg_runW), (pg + 11, f_prg_runPriority), (pg + 12, f_prg_runAt)]) (w := w) (Q := Q') hB (by omega) (by omega) 0 1 f_tp u2.2 h5 hq
    generalize hg_u4 : FX5_takeNumber 0 1 f_tp u2.2 = u4 at k18 hP hO
    try dsimp only at hP hO
    refine r_callM (st := []) (o := ro) (as := [.int 0, .int 1]) (envc := [(tp, f_tp), (ro, u2.2)]) (envc' := [(tp, f_tp), (ro, u4.2)]) (env' := [(tp, f_tp), (ro, u4.2), (ro + 1, f_names), (ro + 17, f_useName), (ro + 18, f_usePlace), (ro + 19, f_user), (pg, f_prg), (pg + 9, f_prg_runMachine), (pg + 10, f_prg_runW), (pg + 11, f_prg_runPriority), (pg + 12, f_prg_runAt)]) (rv := some u4.1) [true, true, false, false, false, false, false, false, false, false, false] (hn _ _ _ _ _ _ _ _ _ _ _) rfl rfl (Nat.le_of_ble_eq_true rfl) hB.1 rfl [tp, ro] rfl rfl rfl k18 ?_
    show RB _ _ _ _ _ [.int u4.1] _ _
    refine r_istore (L' := [some (.ref ro), some (.int u4.1), none, none]) rfl rfl ?_
    refine r_aload rfl ?_
    refine r_int ?_
    refine r_int ?_
    obtain ⟨h7, hO⟩ := hO
    have k17 := fun (Q' : Option Int32 → mMH → Prop) hq => tX5_takeNumber (d := d + 0) (B := B) (v := mE v [(tp, f_tp), (ro, u4.2), (ro + 1, f_names), (ro + 17, f_useName), (ro + 18, f_usePlace), (ro + 19, f_user), (pg, f_prg), (pg + 9, f_prg_runMachine), (pg + 10, f_prg_runW), (pg + 11, f_prg_runPriority), (pg + 12, f_prg_runAt)]) (w := w) (Q := Q') hB (by omega) (by omega) 5 95 f_tp u4.2 h7 hq
    generalize hg_u6 : FX5_takeNumber 5 95 f_tp u4.2 = u6 at k17 hP hO
    try dsimp only at hP hO
    refine r_callM (st := []) (o := ro) (as := [.int 5, .int 95]) (envc := [(tp, f_tp), (ro, u4.2)]) (envc' := [(tp, f_tp), (ro, u6.2)]) (env' := [(tp, f_tp), (ro, u6.2), (ro + 1, f_names), (ro + 17, f_useName), (ro + 18, f_usePlace), (ro + 19, f_user), (pg, f_prg), (pg + 9, f_prg_runMachine), (pg + 10, f_prg_runW), (pg + 11, f_prg_runPriority), (pg + 12, f_prg_runAt)]) (rv := some u6.1) [true, true, false, false, false, false, false, false, false, false, false] (hn _ _ _ _ _ _ _ _ _ _ _) rfl rfl (Nat.le_of_ble_eq_true rfl) hB.1 rfl [tp, ro] rfl rfl rfl k17 ?_
    show RB _ _ _ _ _ [.int u6.1] _ _
    refine r_istore (L' := [some (.ref ro), some (.int u4.1), some (.int u6.1), none]) rfl rfl ?_
    refine r_aload rfl ?_
    refine r_int ?_
    refine r_int ?_
    obtain ⟨h9, hO⟩ := hO
    have k16 := fun (Q' : Option Int32 → mMH → Prop) hq => tX5_takeNumber (d := d + 0) (B := B) (v := mE v [(tp, f_tp), (ro, u6.2), (ro + 1, f_names), (ro + 17, f_useName), (ro + 18, f_usePlace), (ro + 19, f_user), (pg, f_prg), (pg + 9, f_prg_runMachine), (pg + 10, f_prg_runW), (pg + 11, f_prg_runPriority), (pg + 12, f_prg_runAt)]) (w := w) (Q := Q') hB (by omega) (by omega) 0 1 f_tp u6.2 h9 hq
    generalize hg_u8 : FX5_takeNumber 0 1 f_tp u6.2 = u8 at k16 hP hO
    try dsimp only at hP hO
    refine r_callM (st := []) (o := ro) (as := [.int 0, .int 1]) (envc := [(tp, f_tp), (ro, u6.2)]) (envc' := [(tp, f_tp), (ro, u8.2)]) (env' := [(tp, f_tp), (ro, u8.2), (ro + 1, f_names), (ro + 17, f_useName), (ro + 18, f_usePlace), (ro + 19, f_user), (pg, f_prg), (pg + 9, f_prg_runMachine), (pg + 10, f_prg_runW), (pg + 11, f_prg_runPriority), (pg + 12, f_prg_runAt)]) (rv := some u8.1) [true, true, false, false, false, false, false, false, false, false, false] (hn _ _ _ _ _ _ _ _ _ _ _) rfl rfl (Nat.le_of_ble_eq_true rfl) hB.1 rfl [tp, ro] rfl rfl rfl k16 ?_
    show RB _ _ _ _ _ [.int u8.1] _ _
    refine r_istore (L' := [some (.ref ro), some (.int u4.1), some (.int u6.1), some (.int u8.1)]) rfl rfl ?_
    refine r_aload rfl ?_
    refine r_int ?_
    refine r_aload rfl ?_
    refine r_getr (q := pg) hB.1 hB.2.2.2.2.2.2.2.2.2.1 ?_
    refine r_get (x := f_prg 12) 6 (hn _ _ _ _ _ _ _ _ _ _ _) rfl hB.2.2.2.2.2.2.1.1 (by decide) rfl ?_
    refine r_iadd ?_
    obtain ⟨h11, hO⟩ := hO
    have k15 := fun (Q' : Option Int32 → mMH → Prop) hq => tX5_takeUse (d := d + 0) (B := B) (v := mE v [(tp, f_tp), (ro, u8.2), (ro + 1, f_names), (ro + 17, f_useName), (ro + 18, f_usePlace), (ro + 19, f_user), (pg, f_prg), (pg + 9, f_prg_runMachine), (pg + 10, f_prg_runW), (pg + 11, f_prg_runPriority), (pg + 12, f_prg_runAt)]) (w := w) (Q := Q') hB (by omega) (by omega) (100 + (f_prg 12)) f_tp u8.2 f_names f_useName f_usePlace f_user h11 hq
    generalize hg_u10 : FX5_takeUse (100 + (f_prg 12)) f_tp u8.2 f_names f_useName f_usePlace f_user = u10 at k15 hP hO
    try dsimp only at hP hO
    refine r_callM (st := []) (o := ro) (as := [.int (100 + (f_prg 12))]) (envc := [(tp, f_tp), (ro, u8.2), (ro + 1, f_names), (ro + 17, f_useName), (ro + 18, f_usePlace), (ro + 19, f_user)]) (envc' := [(tp, f_tp), (ro, u10.2.1), (ro + 1, f_names), (ro + 17, u10.2.2.1), (ro + 18, u10.2.2.2.1), (ro + 19, u10.2.2.2.2)]) (env' := [(tp, f_tp), (ro, u10.2.1), (ro + 1, f_names), (ro + 17, u10.2.2.1), (ro + 18, u10.2.2.2.1), (ro + 19, u10.2.2.2.2), (pg, f_prg), (pg + 9, f_prg_runMachine), (pg + 10, f_prg_runW), (pg + 11, f_prg_runPriority), (pg + 12, f_prg_runAt)]) (rv := none) [true, true, true, true, true, true, false, false, false, false, false] (hn _ _ _ _ _ _ _ _ _ _ _) rfl rfl (Nat.le_of_ble_eq_true rfl) hB.1 rfl [tp, ro, ro + 1, ro + 17, ro + 18, ro + 19] rfl rfl rfl k15 ?_
    show RB _ _ _ _ _ [] _ _
    refine r_aload rfl ?_
    refine r_getr (q := pg) hB.1 hB.2.2.2.2.2.2.2.2.2.1 ?_
    refine r_iload rfl ?_
    refine r_iload rfl ?_
    refine r_iload rfl ?_
    have h13 := hO
    have k14 := fun (Q' : Option Int32 → mMH → Prop) hq => tX4_addRun (d := d + 3) (B := B) (v := mE v [(tp, f_tp), (ro, u10.2.1), (ro + 1, f_names), (ro + 17, u10.2.2.1), (ro + 18, u10.2.2.2.1), (ro + 19, u10.2.2.2.2), (pg, f_prg), (pg + 9, f_prg_runMachine), (pg + 10, f_prg_runW), (pg + 11, f_prg_runPriority), (pg + 12, f_prg_runAt)]) (w := w) (Q := Q') hB.2.2.2.2.2.2.1 u4.1 u6.1 u8.1 f_prg f_prg_runMachine f_prg_runW f_prg_runPriority f_prg_runAt h13 hq
    generalize hg_u12 : FX4_addRun u4.1 u6.1 u8.1 f_prg f_prg_runMachine f_prg_runW f_prg_runPriority f_prg_runAt = u12 at k14 hP
    try dsimp only at hP
    refine r_callM (st := []) (o := pg) (as := [.int u4.1, .int u6.1, .int u8.1]) (envc := [(pg, f_prg), (pg + 9, f_prg_runMachine), (pg + 10, f_prg_runW), (pg + 11, f_prg_runPriority), (pg + 12, f_prg_runAt)]) (envc' := [(pg, u12.2.1), (pg + 9, u12.2.2.1), (pg + 10, u12.2.2.2.1), (pg + 11, u12.2.2.2.2.1), (pg + 12, u12.2.2.2.2.2)]) (env' := [(tp, f_tp), (ro, u10.2.1), (ro + 1, f_names), (ro + 17, u10.2.2.1), (ro + 18, u10.2.2.2.1), (ro + 19, u10.2.2.2.2), (pg, u12.2.1), (pg + 9, u12.2.2.1), (pg + 10, u12.2.2.2.1), (pg + 11, u12.2.2.2.2.1), (pg + 12, u12.2.2.2.2.2)]) (rv := none) [false, false, false, false, false, false, true, true, true, true, true] (hn _ _ _ _ _ _ _ _ _ _ _) rfl rfl (Nat.le_of_ble_eq_true rfl) hB.2.2.2.2.2.2.1.1 rfl [pg, pg + 9, pg + 10, pg + 11, pg + 12] rfl rfl rfl k14 ?_
    show RB _ _ _ _ _ [] _ _
    exact r_retv rfl (hPQ 0 u10.2.1 u10.2.2.1 u10.2.2.2.1 u10.2.2.2.2 u12.2.1 u12.2.2.1 u12.2.2.2.1 u12.2.2.2.2.1 u12.2.2.2.2.2 hP)
  · rw [if_neg c1] at hP
    have hO := hO.2 c1
    refine r_aload rfl ?_
    refine r_aload rfl ?_
    refine r_get (x := f_this 6) 1 (hn _ _ _ _ _ _ _ _ _ _ _) rfl hB.1 (by decide) rfl ?_
    refine r_int ?_
    have k21 := fun (Q' : Option Int32 → mMH → Prop) hq => tX5_fail (d := d + 3) (B := B) (v := mE v [(tp, f_tp), (ro, f_this), (ro + 1, f_names), (ro + 17, f_useName), (ro + 18, f_usePlace), (ro + 19, f_user), (pg, f_prg), (pg + 9, f_prg_runMachine), (pg + 10, f_prg_runW), (pg + 11, f_prg_runPriority), (pg + 12, f_prg_runAt)]) (w := w) (Q := Q') hB (by omega) (by omega) (f_this 6) 4 f_this hq
    generalize hg_u20 : FX5_fail (f_this 6) 4 f_this = u20 at k21 hP
    try dsimp only at hP
    refine r_callM (st := []) (o := ro) (as := [.int (f_this 6), .int 4]) (envc := [(ro, f_this)]) (envc' := [(ro, u20.2)]) (env' := [(tp, f_tp), (ro, u20.2), (ro + 1, f_names), (ro + 17, f_useName), (ro + 18, f_usePlace), (ro + 19, f_user), (pg, f_prg), (pg + 9, f_prg_runMachine), (pg + 10, f_prg_runW), (pg + 11, f_prg_runPriority), (pg + 12, f_prg_runAt)]) (rv := none) [false, true, false, false, false, false, false, false, false, false, false] (hn _ _ _ _ _ _ _ _ _ _ _) rfl rfl (Nat.le_of_ble_eq_true rfl) hB.1 rfl [ro] rfl rfl rfl k21 ?_
    show RB _ _ _ _ _ [] _ _
    exact r_retv rfl (hPQ 0 u20.2 f_useName f_usePlace f_user f_prg f_prg_runMachine f_prg_runW f_prg_runPriority f_prg_runAt hP)

def FX5_readInstruction_b4 (y1 : Int32) (f_tp : mF) (f_this : mF) (f_names : mF) (f_useName : mF) (f_usePlace : mF) (f_user : mF) (f_prg : mF) (f_prg_op : mF) (f_prg_number : mF) (f_prg_labelName : mF) (f_prg_labelAt : mF) : Int32 × mF × mF × mF × mF × mF × mF × mF × mF × mF :=
  if (f_this 9) = (-1) then (let u14 := FX5_scan f_tp f_this; if 7 ≤ y1 then (if 10 ≤ y1 then (let u18 := FX4_addInstruction y1 0 f_prg f_prg_op f_prg_number; (0, u14.2, f_useName, f_usePlace, f_user, u18.2.1, u18.2.2.1, u18.2.2.2, f_prg_labelName, f_prg_labelAt)) else (let u21 := FX5_takeUse (f_prg 1) f_tp u14.2 f_names f_useName f_usePlace f_user; let u23 := FX4_addInstruction y1 0 f_prg f_prg_op f_prg_number; (0, u21.2.1, u21.2.2.1, u21.2.2.2.1, u21.2.2.2.2, u23.2.1, u23.2.2.1, u23.2.2.2, f_prg_labelName, f_prg_labelAt))) else (let u27 := FX5_takeNumber (-9999) 9999 f_tp u14.2; let u29 := FX4_addInstruction y1 u27.1 f_prg f_prg_op f_prg_number; (0, u27.2, f_useName, f_usePlace, f_user, u29.2.1, u29.2.2.1, u29.2.2.2, f_prg_labelName, f_prg_labelAt))) else ((0, f_this, f_useName, f_usePlace, f_user, f_prg, f_prg_op, f_prg_number, f_prg_labelName, f_prg_labelAt))
def OX5_readInstruction_b4 (y1 : Int32) (f_tp : mF) (f_this : mF) (f_names : mF) (f_useName : mF) (f_usePlace : mF) (f_user : mF) (f_prg : mF) (f_prg_op : mF) (f_prg_number : mF) (f_prg_labelName : mF) (f_prg_labelAt : mF) : Prop :=
  ((f_this 9) = (-1) → (OX5_scan f_tp f_this ∧ (let u14 := FX5_scan f_tp f_this; (7 ≤ y1 → ((10 ≤ y1 → (OX4_addInstruction y1 0 f_prg f_prg_op f_prg_number)) ∧ (¬ (10 ≤ y1) → (OX5_takeUse (f_prg 1) f_tp u14.2 f_names f_useName f_usePlace f_user ∧ (let u21 := FX5_takeUse (f_prg 1) f_tp u14.2 f_names f_useName f_usePlace f_user; OX4_addInstruction y1 0 f_prg f_prg_op f_prg_number))))) ∧ (¬ (7 ≤ y1) → (OX5_takeNumber (-9999) 9999 f_tp u14.2 ∧ (let u27 := FX5_takeNumber (-9999) 9999 f_tp u14.2; OX4_addInstruction y1 u27.1 f_prg f_prg_op f_prg_number)))))) ∧ (¬ ((f_this 9) = (-1)) → True)
set_option maxRecDepth 20000 in
theorem tX5_readInstruction_b4 {d : Nat} {B : mB} {v : mV} {w : mX} {Q : Option Int32 → mMH → Prop} {ro tp pg : Nat} (hB : isRead B ro tp pg) (ht : tp < ro) (hpg : ro + 20 ≤ pg) {P : Int32 × mF × mF × mF × mF × mF × mF × mF × mF × mF → Prop} {f_tp : mF} {f_names : mF} (hPQ : ∀ (q : Int32) (q0 : mF) (q1 : mF) (q2 : mF) (q3 : mF) (q4 : mF) (q5 : mF) (q6 : mF) (q7 : mF) (q8 : mF), P (q, q0, q1, q2, q3, q4, q5, q6, q7, q8) → Q (none) (mH B (mE v [(tp, f_tp), (ro, q0), (ro + 1, f_names), (ro + 17, q1), (ro + 18, q2), (ro + 19, q3), (pg, q4), (pg + 1, q5), (pg + 2, q6), (pg + 3, q7), (pg + 4, q8)]) w)) : ∀ (y1 : Int32) (e2 : Option Value) (he2 : mC1 e2 = true) (f_this : mF) (f_useName : mF) (f_usePlace : mF) (f_user : mF) (f_prg : mF) (f_prg_op : mF) (f_prg_number : mF) (f_prg_labelName : mF) (f_prg_labelAt : mF), OX5_readInstruction_b4 y1 f_tp f_this f_names f_useName f_usePlace f_user f_prg f_prg_op f_prg_number f_prg_labelName f_prg_labelAt → P (FX5_readInstruction_b4 y1 f_tp f_this f_names f_useName f_usePlace f_user f_prg f_prg_op f_prg_number f_prg_labelName f_prg_labelAt) → RJ (d + 4) kX5_readInstruction (none) 4 [some (.ref ro), some (.int y1), e2] [] (mH B (mE v [(tp, f_tp), (ro, f_this), (ro + 1, f_names), (ro + 17, f_useName), (ro + 18, f_usePlace), (ro + 19, f_user), (pg, f_prg), (pg + 1, f_prg_op), (pg + 2, f_prg_number), (pg + 3, f_prg_labelName), (pg + 4, f_prg_labelAt)]) w) Q := by
  intro y1 e2 he2 f_this f_useName f_usePlace f_user f_prg f_prg_op f_prg_number f_prg_labelName f_prg_labelAt hO hP
  rw [FX5_readInstruction_b4] at hP
  rw [OX5_readInstruction_b4] at hO
  have hn : ∀ (f_tp : mF) (f_this : mF) (f_names : mF) (f_useName : mF) (f_usePlace : mF) (f_user : mF) (f_prg : mF) (f_prg_op : mF) (f_prg_number : mF) (f_prg_labelName : mF) (f_prg_labelAt : mF), mNd [(tp, f_tp), (ro, f_this), (ro + 1, f_names), (ro + 17, f_useName), (ro + 18, f_usePlace), (ro + 19, f_user), (pg, f_prg), (pg + 1, f_prg_op), (pg + 2, f_prg_number), (pg + 3, f_prg_labelName), (pg + 4, f_prg_labelAt)] := fun _ _ _ _ _ _ _ _ _ _ _ => by
    show List.Nodup _
    simp only [List.map_cons, List.map_nil, List.nodup_cons, List.mem_cons, List.not_mem_nil, or_false, not_or, not_false_eq_true, List.nodup_nil, and_true]
    omega
  show RB _ _ _ _ [some (.ref ro), some (.int y1), e2] [] _ _
  refine r_aload rfl ?_
  refine r_get (x := f_this 9) 1 (hn _ _ _ _ _ _ _ _ _ _ _) rfl hB.1 (by decide) rfl ?_
  refine r_int ?_
  refine r_icmp (fun c13 : (f_this 9) = (-1) => ?_) (fun c13 : ¬ ((f_this 9) = (-1)) => ?_)
  · rw [if_pos c13] at hP
    have hO := hO.1 c13
    refine r_aload rfl ?_
    obtain ⟨h15, hO⟩ := hO
    have k33 := fun (Q' : Option Int32 → mMH → Prop) hq => tX5_scan (d := d + 1) (B := B) (v := mE v [(tp, f_tp), (ro, f_this), (ro + 1, f_names), (ro + 17, f_useName), (ro + 18, f_usePlace), (ro + 19, f_user), (pg, f_prg), (pg + 1, f_prg_op), (pg + 2, f_prg_number), (pg + 3, f_prg_labelName), (pg + 4, f_prg_labelAt)]) (w := w) (Q := Q') hB (by omega) (by omega) f_tp f_this h15 hq
    generalize hg_u14 : FX5_scan f_tp f_this = u14 at k33 hP hO
    try dsimp only at hP hO
    refine r_callM (st := []) (o := ro) (as := []) (envc := [(tp, f_tp), (ro, f_this)]) (envc' := [(tp, f_tp), (ro, u14.2)]) (env' := [(tp, f_tp), (ro, u14.2), (ro + 1, f_names), (ro + 17, f_useName), (ro + 18, f_usePlace), (ro + 19, f_user), (pg, f_prg), (pg + 1, f_prg_op), (pg + 2, f_prg_number), (pg + 3, f_prg_labelName), (pg + 4, f_prg_labelAt)]) (rv := none) [true, true, false, false, false, false, false, false, false, false, false] (hn _ _ _ _ _ _ _ _ _ _ _) rfl rfl (Nat.le_of_ble_eq_true rfl) hB.1 rfl [tp, ro] rfl rfl rfl k33 ?_
    show RB _ _ _ _ _ [] _ _
    refine r_int ?_
    refine r_istore (L' := [some (.ref ro), some (.int y1), some (.int 0)]) rfl rfl ?_
    refine r_iload rfl ?_
    refine r_int ?_
    refine r_icmp (fun c16 : 7 ≤ y1 => ?_) (fun c16 : ¬ (7 ≤ y1) => ?_)
    · rw [if_pos c16] at hP
      have hO := hO.1 c16
      refine r_iload rfl ?_
      refine r_int ?_
      refine r_icmp (fun c17 : 10 ≤ y1 => ?_) (fun c17 : ¬ (10 ≤ y1) => ?_)
      · rw [if_pos c17] at hP
        have hO := hO.1 c17
        refine r_aload rfl ?_
        refine r_getr (q := pg) hB.1 hB.2.2.2.2.2.2.2.2.2.1 ?_
        refine r_iload rfl ?_
        refine r_iload rfl ?_
        have h19 := hO
        have k20 := fun (Q' : Option Int32 → mMH → Prop) hq => tX4_addInstruction (d := d + 3) (B := B) (v := mE v [(tp, f_tp), (ro, u14.2), (ro + 1, f_names), (ro + 17, f_useName), (ro + 18, f_usePlace), (ro + 19, f_user), (pg, f_prg), (pg + 1, f_prg_op), (pg + 2, f_prg_number), (pg + 3, f_prg_labelName), (pg + 4, f_prg_labelAt)]) (w := w) (Q := Q') hB.2.2.2.2.2.2.1 y1 0 f_prg f_prg_op f_prg_number h19 hq
        generalize hg_u18 : FX4_addInstruction y1 0 f_prg f_prg_op f_prg_number = u18 at k20 hP
        try dsimp only at hP
        refine r_callM (st := []) (o := pg) (as := [.int y1, .int 0]) (envc := [(pg, f_prg), (pg + 1, f_prg_op), (pg + 2, f_prg_number)]) (envc' := [(pg, u18.2.1), (pg + 1, u18.2.2.1), (pg + 2, u18.2.2.2)]) (env' := [(tp, f_tp), (ro, u14.2), (ro + 1, f_names), (ro + 17, f_useName), (ro + 18, f_usePlace), (ro + 19, f_user), (pg, u18.2.1), (pg + 1, u18.2.2.1), (pg + 2, u18.2.2.2), (pg + 3, f_prg_labelName), (pg + 4, f_prg_labelAt)]) (rv := none) [false, false, false, false, false, false, true, true, true, false, false] (hn _ _ _ _ _ _ _ _ _ _ _) rfl rfl (Nat.le_of_ble_eq_true rfl) hB.2.2.2.2.2.2.1.1 rfl [pg, pg + 1, pg + 2] rfl rfl rfl k20 ?_
        show RB _ _ _ _ _ [] _ _
        exact r_retv rfl (hPQ 0 u14.2 f_useName f_usePlace f_user u18.2.1 u18.2.2.1 u18.2.2.2 f_prg_labelName f_prg_labelAt hP)
      · rw [if_neg c17] at hP
        have hO := hO.2 c17
        refine r_aload rfl ?_
        refine r_aload rfl ?_
        refine r_getr (q := pg) hB.1 hB.2.2.2.2.2.2.2.2.2.1 ?_
        refine r_get (x := f_prg 1) 6 (hn _ _ _ _ _ _ _ _ _ _ _) rfl hB.2.2.2.2.2.2.1.1 (by decide) rfl ?_
        obtain ⟨h22, hO⟩ := hO
        have k26 := fun (Q' : Option Int32 → mMH → Prop) hq => tX5_takeUse (d := d + 0) (B := B) (v := mE v [(tp, f_tp), (ro, u14.2), (ro + 1, f_names), (ro + 17, f_useName), (ro + 18, f_usePlace), (ro + 19, f_user), (pg, f_prg), (pg + 1, f_prg_op), (pg + 2, f_prg_number), (pg + 3, f_prg_labelName), (pg + 4, f_prg_labelAt)]) (w := w) (Q := Q') hB (by omega) (by omega) (f_prg 1) f_tp u14.2 f_names f_useName f_usePlace f_user h22 hq
        generalize hg_u21 : FX5_takeUse (f_prg 1) f_tp u14.2 f_names f_useName f_usePlace f_user = u21 at k26 hP hO
        try dsimp only at hP hO
        refine r_callM (st := []) (o := ro) (as := [.int (f_prg 1)]) (envc := [(tp, f_tp), (ro, u14.2), (ro + 1, f_names), (ro + 17, f_useName), (ro + 18, f_usePlace), (ro + 19, f_user)]) (envc' := [(tp, f_tp), (ro, u21.2.1), (ro + 1, f_names), (ro + 17, u21.2.2.1), (ro + 18, u21.2.2.2.1), (ro + 19, u21.2.2.2.2)]) (env' := [(tp, f_tp), (ro, u21.2.1), (ro + 1, f_names), (ro + 17, u21.2.2.1), (ro + 18, u21.2.2.2.1), (ro + 19, u21.2.2.2.2), (pg, f_prg), (pg + 1, f_prg_op), (pg + 2, f_prg_number), (pg + 3, f_prg_labelName), (pg + 4, f_prg_labelAt)]) (rv := none) [true, true, true, true, true, true, false, false, false, false, false] (hn _ _ _ _ _ _ _ _ _ _ _) rfl rfl (Nat.le_of_ble_eq_true rfl) hB.1 rfl [tp, ro, ro + 1, ro + 17, ro + 18, ro + 19] rfl rfl rfl k26 ?_
        show RB _ _ _ _ _ [] _ _
        refine r_fall ?_
        refine r_aload rfl ?_
        refine r_getr (q := pg) hB.1 hB.2.2.2.2.2.2.2.2.2.1 ?_
        refine r_iload rfl ?_
        refine r_iload rfl ?_
        have h24 := hO
        have k25 := fun (Q' : Option Int32 → mMH → Prop) hq => tX4_addInstruction (d := d + 3) (B := B) (v := mE v [(tp, f_tp), (ro, u21.2.1), (ro + 1, f_names), (ro + 17, u21.2.2.1), (ro + 18, u21.2.2.2.1), (ro + 19, u21.2.2.2.2), (pg, f_prg), (pg + 1, f_prg_op), (pg + 2, f_prg_number), (pg + 3, f_prg_labelName), (pg + 4, f_prg_labelAt)]) (w := w) (Q := Q') hB.2.2.2.2.2.2.1 y1 0 f_prg f_prg_op f_prg_number h24 hq
        generalize hg_u23 : FX4_addInstruction y1 0 f_prg f_prg_op f_prg_number = u23 at k25 hP
        try dsimp only at hP
        refine r_callM (st := []) (o := pg) (as := [.int y1, .int 0]) (envc := [(pg, f_prg), (pg + 1, f_prg_op), (pg + 2, f_prg_number)]) (envc' := [(pg, u23.2.1), (pg + 1, u23.2.2.1), (pg + 2, u23.2.2.2)]) (env' := [(tp, f_tp), (ro, u21.2.1), (ro + 1, f_names), (ro + 17, u21.2.2.1), (ro + 18, u21.2.2.2.1), (ro + 19, u21.2.2.2.2), (pg, u23.2.1), (pg + 1, u23.2.2.1), (pg + 2, u23.2.2.2), (pg + 3, f_prg_labelName), (pg + 4, f_prg_labelAt)]) (rv := none) [false, false, false, false, false, false, true, true, true, false, false] (hn _ _ _ _ _ _ _ _ _ _ _) rfl rfl (Nat.le_of_ble_eq_true rfl) hB.2.2.2.2.2.2.1.1 rfl [pg, pg + 1, pg + 2] rfl rfl rfl k25 ?_
        show RB _ _ _ _ _ [] _ _
        exact r_retv rfl (hPQ 0 u21.2.1 u21.2.2.1 u21.2.2.2.1 u21.2.2.2.2 u23.2.1 u23.2.2.1 u23.2.2.2 f_prg_labelName f_prg_labelAt hP)
    · rw [if_neg c16] at hP
      have hO := hO.2 c16
      refine r_aload rfl ?_
      refine r_int ?_
      refine r_int ?_
      obtain ⟨h28, hO⟩ := hO
      have k32 := fun (Q' : Option Int32 → mMH → Prop) hq => tX5_takeNumber (d := d + 0) (B := B) (v := mE v [(tp, f_tp), (ro, u14.2), (ro + 1, f_names), (ro + 17, f_useName), (ro + 18, f_usePlace), (ro + 19, f_user), (pg, f_prg), (pg + 1, f_prg_op), (pg + 2, f_prg_number), (pg + 3, f_prg_labelName), (pg + 4, f_prg_labelAt)]) (w := w) (Q := Q') hB (by omega) (by omega) (-9999) 9999 f_tp u14.2 h28 hq
      generalize hg_u27 : FX5_takeNumber (-9999) 9999 f_tp u14.2 = u27 at k32 hP hO
      try dsimp only at hP hO
      refine r_callM (st := []) (o := ro) (as := [.int (-9999), .int 9999]) (envc := [(tp, f_tp), (ro, u14.2)]) (envc' := [(tp, f_tp), (ro, u27.2)]) (env' := [(tp, f_tp), (ro, u27.2), (ro + 1, f_names), (ro + 17, f_useName), (ro + 18, f_usePlace), (ro + 19, f_user), (pg, f_prg), (pg + 1, f_prg_op), (pg + 2, f_prg_number), (pg + 3, f_prg_labelName), (pg + 4, f_prg_labelAt)]) (rv := some u27.1) [true, true, false, false, false, false, false, false, false, false, false] (hn _ _ _ _ _ _ _ _ _ _ _) rfl rfl (Nat.le_of_ble_eq_true rfl) hB.1 rfl [tp, ro] rfl rfl rfl k32 ?_
      show RB _ _ _ _ _ [.int u27.1] _ _
      refine r_istore (L' := [some (.ref ro), some (.int y1), some (.int u27.1)]) rfl rfl ?_
      refine r_goto ?_
      refine r_aload rfl ?_
      refine r_getr (q := pg) hB.1 hB.2.2.2.2.2.2.2.2.2.1 ?_
      refine r_iload rfl ?_
      refine r_iload rfl ?_
      have h30 := hO
      have k31 := fun (Q' : Option Int32 → mMH → Prop) hq => tX4_addInstruction (d := d + 3) (B := B) (v := mE v [(tp, f_tp), (ro, u27.2), (ro + 1, f_names), (ro + 17, f_useName), (ro + 18, f_usePlace), (ro + 19, f_user), (pg, f_prg), (pg + 1, f_prg_op), (pg + 2, f_prg_number), (pg + 3, f_prg_labelName), (pg + 4, f_prg_labelAt)]) (w := w) (Q := Q') hB.2.2.2.2.2.2.1 y1 u27.1 f_prg f_prg_op f_prg_number h30 hq
      generalize hg_u29 : FX4_addInstruction y1 u27.1 f_prg f_prg_op f_prg_number = u29 at k31 hP
      try dsimp only at hP
      refine r_callM (st := []) (o := pg) (as := [.int y1, .int u27.1]) (envc := [(pg, f_prg), (pg + 1, f_prg_op), (pg + 2, f_prg_number)]) (envc' := [(pg, u29.2.1), (pg + 1, u29.2.2.1), (pg + 2, u29.2.2.2)]) (env' := [(tp, f_tp), (ro, u27.2), (ro + 1, f_names), (ro + 17, f_useName), (ro + 18, f_usePlace), (ro + 19, f_user), (pg, u29.2.1), (pg + 1, u29.2.2.1), (pg + 2, u29.2.2.2), (pg + 3, f_prg_labelName), (pg + 4, f_prg_labelAt)]) (rv := none) [false, false, false, false, false, false, true, true, true, false, false] (hn _ _ _ _ _ _ _ _ _ _ _) rfl rfl (Nat.le_of_ble_eq_true rfl) hB.2.2.2.2.2.2.1.1 rfl [pg, pg + 1, pg + 2] rfl rfl rfl k31 ?_
      show RB _ _ _ _ _ [] _ _
      exact r_retv rfl (hPQ 0 u27.2 f_useName f_usePlace f_user u29.2.1 u29.2.2.1 u29.2.2.2 f_prg_labelName f_prg_labelAt hP)
  · rw [if_neg c13] at hP
    have hO := hO.2 c13
    exact r_retv rfl (hPQ 0 f_this f_useName f_usePlace f_user f_prg f_prg_op f_prg_number f_prg_labelName f_prg_labelAt hP)
def FX5_readInstruction_b1 (f_tp : mF) (f_this : mF) (f_names : mF) (f_useName : mF) (f_usePlace : mF) (f_user : mF) (f_prg : mF) (f_prg_op : mF) (f_prg_number : mF) (f_prg_labelName : mF) (f_prg_labelAt : mF) : Int32 × mF × mF × mF × mF × mF × mF × mF × mF × mF :=
  let u9 := FX5_name f_this f_names; if u9 = (-1) then (let u12 := FX5_fail (f_this 6) 1 f_this; FX5_readInstruction_b4 u9 f_tp u12.2 f_names f_useName f_usePlace f_user f_prg f_prg_op f_prg_number f_prg_labelName f_prg_labelAt) else (if u9 < 39 then (if (f_prg 1) < 100 then (FX5_readInstruction_b4 u9 f_tp f_this f_names f_useName f_usePlace f_user f_prg f_prg_op f_prg_number f_prg_labelName f_prg_labelAt) else (let u37 := FX5_fail (f_this 6) 4 f_this; FX5_readInstruction_b4 u9 f_tp u37.2 f_names f_useName f_usePlace f_user f_prg f_prg_op f_prg_number f_prg_labelName f_prg_labelAt)) else (let u39 := FX5_fail (f_this 6) 1 f_this; FX5_readInstruction_b4 u9 f_tp u39.2 f_names f_useName f_usePlace f_user f_prg f_prg_op f_prg_number f_prg_labelName f_prg_labelAt))
def OX5_readInstruction_b1 (f_tp : mF) (f_this : mF) (f_names : mF) (f_useName : mF) (f_usePlace : mF) (f_user : mF) (f_prg : mF) (f_prg_op : mF) (f_prg_number : mF) (f_prg_labelName : mF) (f_prg_labelAt : mF) : Prop :=
  OX5_name f_this f_names ∧ (let u9 := FX5_name f_this f_names; (u9 = (-1) → ((let u12 := FX5_fail (f_this 6) 1 f_this; OX5_readInstruction_b4 u9 f_tp u12.2 f_names f_useName f_usePlace f_user f_prg f_prg_op f_prg_number f_prg_labelName f_prg_labelAt))) ∧ (¬ (u9 = (-1)) → ((u9 < 39 → (((f_prg 1) < 100 → (OX5_readInstruction_b4 u9 f_tp f_this f_names f_useName f_usePlace f_user f_prg f_prg_op f_prg_number f_prg_labelName f_prg_labelAt)) ∧ (¬ ((f_prg 1) < 100) → ((let u37 := FX5_fail (f_this 6) 4 f_this; OX5_readInstruction_b4 u9 f_tp u37.2 f_names f_useName f_usePlace f_user f_prg f_prg_op f_prg_number f_prg_labelName f_prg_labelAt))))) ∧ (¬ (u9 < 39) → ((let u39 := FX5_fail (f_this 6) 1 f_this; OX5_readInstruction_b4 u9 f_tp u39.2 f_names f_useName f_usePlace f_user f_prg f_prg_op f_prg_number f_prg_labelName f_prg_labelAt))))))
set_option maxRecDepth 20000 in
theorem tX5_readInstruction_b1 {d : Nat} {B : mB} {v : mV} {w : mX} {Q : Option Int32 → mMH → Prop} {ro tp pg : Nat} (hB : isRead B ro tp pg) (ht : tp < ro) (hpg : ro + 20 ≤ pg) {P : Int32 × mF × mF × mF × mF × mF × mF × mF × mF × mF → Prop} {f_tp : mF} {f_names : mF} (hPQ : ∀ (q : Int32) (q0 : mF) (q1 : mF) (q2 : mF) (q3 : mF) (q4 : mF) (q5 : mF) (q6 : mF) (q7 : mF) (q8 : mF), P (q, q0, q1, q2, q3, q4, q5, q6, q7, q8) → Q (none) (mH B (mE v [(tp, f_tp), (ro, q0), (ro + 1, f_names), (ro + 17, q1), (ro + 18, q2), (ro + 19, q3), (pg, q4), (pg + 1, q5), (pg + 2, q6), (pg + 3, q7), (pg + 4, q8)]) w)) : ∀ (e1 : Option Value) (he1 : mC1 e1 = true) (e2 : Option Value) (he2 : mC1 e2 = true) (f_this : mF) (f_useName : mF) (f_usePlace : mF) (f_user : mF) (f_prg : mF) (f_prg_op : mF) (f_prg_number : mF) (f_prg_labelName : mF) (f_prg_labelAt : mF), OX5_readInstruction_b1 f_tp f_this f_names f_useName f_usePlace f_user f_prg f_prg_op f_prg_number f_prg_labelName f_prg_labelAt → P (FX5_readInstruction_b1 f_tp f_this f_names f_useName f_usePlace f_user f_prg f_prg_op f_prg_number f_prg_labelName f_prg_labelAt) → RJ (d + 4) kX5_readInstruction (none) 1 [some (.ref ro), e1, e2] [] (mH B (mE v [(tp, f_tp), (ro, f_this), (ro + 1, f_names), (ro + 17, f_useName), (ro + 18, f_usePlace), (ro + 19, f_user), (pg, f_prg), (pg + 1, f_prg_op), (pg + 2, f_prg_number), (pg + 3, f_prg_labelName), (pg + 4, f_prg_labelAt)]) w) Q := by
  intro e1 he1 e2 he2 f_this f_useName f_usePlace f_user f_prg f_prg_op f_prg_number f_prg_labelName f_prg_labelAt hO hP
  rw [FX5_readInstruction_b1] at hP
  rw [OX5_readInstruction_b1] at hO
  have hn : ∀ (f_tp : mF) (f_this : mF) (f_names : mF) (f_useName : mF) (f_usePlace : mF) (f_user : mF) (f_prg : mF) (f_prg_op : mF) (f_prg_number : mF) (f_prg_labelName : mF) (f_prg_labelAt : mF), mNd [(tp, f_tp), (ro, f_this), (ro + 1, f_names), (ro + 17, f_useName), (ro + 18, f_usePlace), (ro + 19, f_user), (pg, f_prg), (pg + 1, f_prg_op), (pg + 2, f_prg_number), (pg + 3, f_prg_labelName), (pg + 4, f_prg_labelAt)] := fun _ _ _ _ _ _ _ _ _ _ _ => by
    show List.Nodup _
    simp only [List.map_cons, List.map_nil, List.nodup_cons, List.mem_cons, List.not_mem_nil, or_false, not_or, not_false_eq_true, List.nodup_nil, and_true]
    omega
  show RB _ _ _ _ [some (.ref ro), e1, e2] [] _ _
  refine r_aload rfl ?_
  obtain ⟨h10, hO⟩ := hO
  have k41 := fun (Q' : Option Int32 → mMH → Prop) hq => tX5_name (d := d + 3) (B := B) (v := mE v [(tp, f_tp), (ro, f_this), (ro + 1, f_names), (ro + 17, f_useName), (ro + 18, f_usePlace), (ro + 19, f_user), (pg, f_prg), (pg + 1, f_prg_op), (pg + 2, f_prg_number), (pg + 3, f_prg_labelName), (pg + 4, f_prg_labelAt)]) (w := w) (Q := Q') hB (by omega) (by omega) f_this f_names h10 hq
  generalize hg_u9 : FX5_name f_this f_names = u9 at k41 hP hO
  try dsimp only at hP hO
  refine r_callM (st := []) (o := ro) (as := []) (envc := [(ro, f_this), (ro + 1, f_names)]) (envc' := [(ro, f_this), (ro + 1, f_names)]) (env' := [(tp, f_tp), (ro, f_this), (ro + 1, f_names), (ro + 17, f_useName), (ro + 18, f_usePlace), (ro + 19, f_user), (pg, f_prg), (pg + 1, f_prg_op), (pg + 2, f_prg_number), (pg + 3, f_prg_labelName), (pg + 4, f_prg_labelAt)]) (rv := some u9) [false, true, true, false, false, false, false, false, false, false, false] (hn _ _ _ _ _ _ _ _ _ _ _) rfl rfl (Nat.le_of_ble_eq_true rfl) hB.1 rfl [ro, ro + 1] rfl rfl rfl k41 ?_
  show RB _ _ _ _ _ [.int u9] _ _
  refine r_istore (L' := [some (.ref ro), some (.int u9), e2]) rfl rfl ?_
  refine r_iload rfl ?_
  refine r_int ?_
  refine r_icmp (fun c11 : u9 = (-1) => ?_) (fun c11 : ¬ (u9 = (-1)) => ?_)
  · rw [if_pos c11] at hP
    have hO := hO.1 c11
    refine r_aload rfl ?_
    refine r_aload rfl ?_
    refine r_get (x := f_this 6) 1 (hn _ _ _ _ _ _ _ _ _ _ _) rfl hB.1 (by decide) rfl ?_
    refine r_int ?_
    have k34 := fun (Q' : Option Int32 → mMH → Prop) hq => tX5_fail (d := d + 3) (B := B) (v := mE v [(tp, f_tp), (ro, f_this), (ro + 1, f_names), (ro + 17, f_useName), (ro + 18, f_usePlace), (ro + 19, f_user), (pg, f_prg), (pg + 1, f_prg_op), (pg + 2, f_prg_number), (pg + 3, f_prg_labelName), (pg + 4, f_prg_labelAt)]) (w := w) (Q := Q') hB (by omega) (by omega) (f_this 6) 1 f_this hq
    generalize hg_u12 : FX5_fail (f_this 6) 1 f_this = u12 at k34 hP hO
    try dsimp only at hP hO
    refine r_callM (st := []) (o := ro) (as := [.int (f_this 6), .int 1]) (envc := [(ro, f_this)]) (envc' := [(ro, u12.2)]) (env' := [(tp, f_tp), (ro, u12.2), (ro + 1, f_names), (ro + 17, f_useName), (ro + 18, f_usePlace), (ro + 19, f_user), (pg, f_prg), (pg + 1, f_prg_op), (pg + 2, f_prg_number), (pg + 3, f_prg_labelName), (pg + 4, f_prg_labelAt)]) (rv := none) [false, true, false, false, false, false, false, false, false, false, false] (hn _ _ _ _ _ _ _ _ _ _ _) rfl rfl (Nat.le_of_ble_eq_true rfl) hB.1 rfl [ro] rfl rfl rfl k34 ?_
    show RB _ _ _ _ _ [] _ _
    refine r_goto ?_
    exact tX5_readInstruction_b4 hB ht hpg hPQ u9 e2 he2 u12.2 f_useName f_usePlace f_user f_prg f_prg_op f_prg_number f_prg_labelName f_prg_labelAt hO hP
  · rw [if_neg c11] at hP
    have hO := hO.2 c11
    refine r_iload rfl ?_
    refine r_int ?_
    refine r_icmp (fun c35 : u9 < 39 => ?_) (fun c35 : ¬ (u9 < 39) => ?_)
    · rw [if_pos c35] at hP
      have hO := hO.1 c35
      refine r_aload rfl ?_
      refine r_getr (q := pg) hB.1 hB.2.2.2.2.2.2.2.2.2.1 ?_
      refine r_get (x := f_prg 1) 6 (hn _ _ _ _ _ _ _ _ _ _ _) rfl hB.2.2.2.2.2.2.1.1 (by decide) rfl ?_
      refine r_int ?_
      refine r_icmp (fun c36 : (f_prg 1) < 100 => ?_) (fun c36 : ¬ ((f_prg 1) < 100) => ?_)
      · rw [if_pos c36] at hP
        have hO := hO.1 c36
        exact tX5_readInstruction_b4 hB ht hpg hPQ u9 e2 he2 f_this f_useName f_usePlace f_user f_prg f_prg_op f_prg_number f_prg_labelName f_prg_labelAt hO hP
      · rw [if_neg c36] at hP
        have hO := hO.2 c36
        refine r_aload rfl ?_
        refine r_aload rfl ?_
        refine r_get (x := f_this 6) 1 (hn _ _ _ _ _ _ _ _ _ _ _) rfl hB.1 (by decide) rfl ?_
        refine r_int ?_
        have k38 := fun (Q' : Option Int32 → mMH → Prop) hq => tX5_fail (d := d + 3) (B := B) (v := mE v [(tp, f_tp), (ro, f_this), (ro + 1, f_names), (ro + 17, f_useName), (ro + 18, f_usePlace), (ro + 19, f_user), (pg, f_prg), (pg + 1, f_prg_op), (pg + 2, f_prg_number), (pg + 3, f_prg_labelName), (pg + 4, f_prg_labelAt)]) (w := w) (Q := Q') hB (by omega) (by omega) (f_this 6) 4 f_this hq
        generalize hg_u37 : FX5_fail (f_this 6) 4 f_this = u37 at k38 hP hO
        try dsimp only at hP hO
        refine r_callM (st := []) (o := ro) (as := [.int (f_this 6), .int 4]) (envc := [(ro, f_this)]) (envc' := [(ro, u37.2)]) (env' := [(tp, f_tp), (ro, u37.2), (ro + 1, f_names), (ro + 17, f_useName), (ro + 18, f_usePlace), (ro + 19, f_user), (pg, f_prg), (pg + 1, f_prg_op), (pg + 2, f_prg_number), (pg + 3, f_prg_labelName), (pg + 4, f_prg_labelAt)]) (rv := none) [false, true, false, false, false, false, false, false, false, false, false] (hn _ _ _ _ _ _ _ _ _ _ _) rfl rfl (Nat.le_of_ble_eq_true rfl) hB.1 rfl [ro] rfl rfl rfl k38 ?_
        show RB _ _ _ _ _ [] _ _
        refine r_fall ?_
        exact tX5_readInstruction_b4 hB ht hpg hPQ u9 e2 he2 u37.2 f_useName f_usePlace f_user f_prg f_prg_op f_prg_number f_prg_labelName f_prg_labelAt hO hP
    · rw [if_neg c35] at hP
      have hO := hO.2 c35
      refine r_fall ?_
      refine r_aload rfl ?_
      refine r_aload rfl ?_
      refine r_get (x := f_this 6) 1 (hn _ _ _ _ _ _ _ _ _ _ _) rfl hB.1 (by decide) rfl ?_
      refine r_int ?_
      have k40 := fun (Q' : Option Int32 → mMH → Prop) hq => tX5_fail (d := d + 3) (B := B) (v := mE v [(tp, f_tp), (ro, f_this), (ro + 1, f_names), (ro + 17, f_useName), (ro + 18, f_usePlace), (ro + 19, f_user), (pg, f_prg), (pg + 1, f_prg_op), (pg + 2, f_prg_number), (pg + 3, f_prg_labelName), (pg + 4, f_prg_labelAt)]) (w := w) (Q := Q') hB (by omega) (by omega) (f_this 6) 1 f_this hq
      generalize hg_u39 : FX5_fail (f_this 6) 1 f_this = u39 at k40 hP hO
      try dsimp only at hP hO
      refine r_callM (st := []) (o := ro) (as := [.int (f_this 6), .int 1]) (envc := [(ro, f_this)]) (envc' := [(ro, u39.2)]) (env' := [(tp, f_tp), (ro, u39.2), (ro + 1, f_names), (ro + 17, f_useName), (ro + 18, f_usePlace), (ro + 19, f_user), (pg, f_prg), (pg + 1, f_prg_op), (pg + 2, f_prg_number), (pg + 3, f_prg_labelName), (pg + 4, f_prg_labelAt)]) (rv := none) [false, true, false, false, false, false, false, false, false, false, false] (hn _ _ _ _ _ _ _ _ _ _ _) rfl rfl (Nat.le_of_ble_eq_true rfl) hB.1 rfl [ro] rfl rfl rfl k40 ?_
      show RB _ _ _ _ _ [] _ _
      refine r_goto ?_
      exact tX5_readInstruction_b4 hB ht hpg hPQ u9 e2 he2 u39.2 f_useName f_usePlace f_user f_prg f_prg_op f_prg_number f_prg_labelName f_prg_labelAt hO hP
def FX5_readInstruction (f_tp : mF) (f_this : mF) (f_names : mF) (f_useName : mF) (f_usePlace : mF) (f_user : mF) (f_prg : mF) (f_prg_op : mF) (f_prg_number : mF) (f_prg_labelName : mF) (f_prg_labelAt : mF) : Int32 × mF × mF × mF × mF × mF × mF × mF × mF × mF :=
  if (f_this 5) = 2 then (let u2 := FX5_name f_this f_names; if u2 = (-1) then (let u5 := FX5_readLabel f_tp f_this f_prg f_prg_labelName f_prg_labelAt; let u7 := FX5_takeSign 58 f_tp u5.2.1; FX5_readInstruction_b1 f_tp u7.2 f_names f_useName f_usePlace f_user u5.2.2.1 f_prg_op f_prg_number u5.2.2.2.1 u5.2.2.2.2) else (FX5_readInstruction_b1 f_tp f_this f_names f_useName f_usePlace f_user f_prg f_prg_op f_prg_number f_prg_labelName f_prg_labelAt)) else (FX5_readInstruction_b1 f_tp f_this f_names f_useName f_usePlace f_user f_prg f_prg_op f_prg_number f_prg_labelName f_prg_labelAt)
def OX5_readInstruction (f_tp : mF) (f_this : mF) (f_names : mF) (f_useName : mF) (f_usePlace : mF) (f_user : mF) (f_prg : mF) (f_prg_op : mF) (f_prg_number : mF) (f_prg_labelName : mF) (f_prg_labelAt : mF) : Prop :=
  ((f_this 5) = 2 → (OX5_name f_this f_names ∧ (let u2 := FX5_name f_this f_names; (u2 = (-1) → (OX5_readLabel f_tp f_this f_prg f_prg_labelName f_prg_labelAt ∧ (let u5 := FX5_readLabel f_tp f_this f_prg f_prg_labelName f_prg_labelAt; OX5_takeSign 58 f_tp u5.2.1 ∧ (let u7 := FX5_takeSign 58 f_tp u5.2.1; OX5_readInstruction_b1 f_tp u7.2 f_names f_useName f_usePlace f_user u5.2.2.1 f_prg_op f_prg_number u5.2.2.2.1 u5.2.2.2.2)))) ∧ (¬ (u2 = (-1)) → (OX5_readInstruction_b1 f_tp f_this f_names f_useName f_usePlace f_user f_prg f_prg_op f_prg_number f_prg_labelName f_prg_labelAt))))) ∧ (¬ ((f_this 5) = 2) → (OX5_readInstruction_b1 f_tp f_this f_names f_useName f_usePlace f_user f_prg f_prg_op f_prg_number f_prg_labelName f_prg_labelAt))
set_option maxRecDepth 20000 in
theorem tX5_readInstruction {d : Nat} {B : mB} {v : mV} {w : mX} {Q : Option Int32 → mMH → Prop} {ro tp pg : Nat} (hB : isRead B ro tp pg) (ht : tp < ro) (hpg : ro + 20 ≤ pg) (f_tp : mF) (f_this : mF) (f_names : mF) (f_useName : mF) (f_usePlace : mF) (f_user : mF) (f_prg : mF) (f_prg_op : mF) (f_prg_number : mF) (f_prg_labelName : mF) (f_prg_labelAt : mF) (hO : OX5_readInstruction f_tp f_this f_names f_useName f_usePlace f_user f_prg f_prg_op f_prg_number f_prg_labelName f_prg_labelAt) (hQ : Q (none) (mH B (mE v [(tp, f_tp), (ro, (FX5_readInstruction f_tp f_this f_names f_useName f_usePlace f_user f_prg f_prg_op f_prg_number f_prg_labelName f_prg_labelAt).2.1), (ro + 1, f_names), (ro + 17, (FX5_readInstruction f_tp f_this f_names f_useName f_usePlace f_user f_prg f_prg_op f_prg_number f_prg_labelName f_prg_labelAt).2.2.1), (ro + 18, (FX5_readInstruction f_tp f_this f_names f_useName f_usePlace f_user f_prg f_prg_op f_prg_number f_prg_labelName f_prg_labelAt).2.2.2.1), (ro + 19, (FX5_readInstruction f_tp f_this f_names f_useName f_usePlace f_user f_prg f_prg_op f_prg_number f_prg_labelName f_prg_labelAt).2.2.2.2.1), (pg, (FX5_readInstruction f_tp f_this f_names f_useName f_usePlace f_user f_prg f_prg_op f_prg_number f_prg_labelName f_prg_labelAt).2.2.2.2.2.1), (pg + 1, (FX5_readInstruction f_tp f_this f_names f_useName f_usePlace f_user f_prg f_prg_op f_prg_number f_prg_labelName f_prg_labelAt).2.2.2.2.2.2.1), (pg + 2, (FX5_readInstruction f_tp f_this f_names f_useName f_usePlace f_user f_prg f_prg_op f_prg_number f_prg_labelName f_prg_labelAt).2.2.2.2.2.2.2.1), (pg + 3, (FX5_readInstruction f_tp f_this f_names f_useName f_usePlace f_user f_prg f_prg_op f_prg_number f_prg_labelName f_prg_labelAt).2.2.2.2.2.2.2.2.1), (pg + 4, (FX5_readInstruction f_tp f_this f_names f_useName f_usePlace f_user f_prg f_prg_op f_prg_number f_prg_labelName f_prg_labelAt).2.2.2.2.2.2.2.2.2)]) w)) : CQ (d + 5) 95 [.ref ro] (mH B (mE v [(tp, f_tp), (ro, f_this), (ro + 1, f_names), (ro + 17, f_useName), (ro + 18, f_usePlace), (ro + 19, f_user), (pg, f_prg), (pg + 1, f_prg_op), (pg + 2, f_prg_number), (pg + 3, f_prg_labelName), (pg + 4, f_prg_labelAt)]) w) Q := by
  have hn : ∀ (f_tp : mF) (f_this : mF) (f_names : mF) (f_useName : mF) (f_usePlace : mF) (f_user : mF) (f_prg : mF) (f_prg_op : mF) (f_prg_number : mF) (f_prg_labelName : mF) (f_prg_labelAt : mF), mNd [(tp, f_tp), (ro, f_this), (ro + 1, f_names), (ro + 17, f_useName), (ro + 18, f_usePlace), (ro + 19, f_user), (pg, f_prg), (pg + 1, f_prg_op), (pg + 2, f_prg_number), (pg + 3, f_prg_labelName), (pg + 4, f_prg_labelAt)] := fun _ _ _ _ _ _ _ _ _ _ _ => by
    show List.Nodup _
    simp only [List.map_cons, List.map_nil, List.nodup_cons, List.mem_cons, List.not_mem_nil, or_false, not_or, not_false_eq_true, List.nodup_nil, and_true]
    omega
  obtain ⟨P, hPQ, hP⟩ : ∃ P : Int32 × mF × mF × mF × mF × mF × mF × mF × mF × mF → Prop, (∀ (q : Int32) (q0 : mF) (q1 : mF) (q2 : mF) (q3 : mF) (q4 : mF) (q5 : mF) (q6 : mF) (q7 : mF) (q8 : mF), P (q, q0, q1, q2, q3, q4, q5, q6, q7, q8) → Q (none) (mH B (mE v [(tp, f_tp), (ro, q0), (ro + 1, f_names), (ro + 17, q1), (ro + 18, q2), (ro + 19, q3), (pg, q4), (pg + 1, q5), (pg + 2, q6), (pg + 3, q7), (pg + 4, q8)]) w)) ∧ P (FX5_readInstruction f_tp f_this f_names f_useName f_usePlace f_user f_prg f_prg_op f_prg_number f_prg_labelName f_prg_labelAt) := ⟨fun res => Q (none) (mH B (mE v [(tp, f_tp), (ro, res.2.1), (ro + 1, f_names), (ro + 17, res.2.2.1), (ro + 18, res.2.2.2.1), (ro + 19, res.2.2.2.2.1), (pg, res.2.2.2.2.2.1), (pg + 1, res.2.2.2.2.2.2.1), (pg + 2, res.2.2.2.2.2.2.2.1), (pg + 3, res.2.2.2.2.2.2.2.2.1), (pg + 4, res.2.2.2.2.2.2.2.2.2)]) w), fun _ _ _ _ _ _ _ _ _ _ h => h, hQ⟩
  refine r_begin mt_95 (by intro a ha; simp only [List.mem_cons, List.not_mem_nil, or_false] at ha; rcases ha with rfl <;> rfl) (Nat.le_of_ble_eq_true rfl) ?_
  rw [FX5_readInstruction] at hP
  rw [OX5_readInstruction] at hO
  show RB _ _ _ _ [some (.ref ro), none, none] [] _ _
  refine r_aload rfl ?_
  refine r_get (x := f_this 5) 1 (hn _ _ _ _ _ _ _ _ _ _ _) rfl hB.1 (by decide) rfl ?_
  refine r_int ?_
  refine r_icmp1 (fun c1 : (f_this 5) = 2 => ?_) (fun c1 : ¬ ((f_this 5) = 2) => ?_)
  · rw [if_pos c1] at hP
    have hO := hO.1 c1
    refine r_aload rfl ?_
    obtain ⟨h3, hO⟩ := hO
    have k44 := fun (Q' : Option Int32 → mMH → Prop) hq => tX5_name (d := d + 3) (B := B) (v := mE v [(tp, f_tp), (ro, f_this), (ro + 1, f_names), (ro + 17, f_useName), (ro + 18, f_usePlace), (ro + 19, f_user), (pg, f_prg), (pg + 1, f_prg_op), (pg + 2, f_prg_number), (pg + 3, f_prg_labelName), (pg + 4, f_prg_labelAt)]) (w := w) (Q := Q') hB (by omega) (by omega) f_this f_names h3 hq
    generalize hg_u2 : FX5_name f_this f_names = u2 at k44 hP hO
    try dsimp only at hP hO
    refine r_callM (st := []) (o := ro) (as := []) (envc := [(ro, f_this), (ro + 1, f_names)]) (envc' := [(ro, f_this), (ro + 1, f_names)]) (env' := [(tp, f_tp), (ro, f_this), (ro + 1, f_names), (ro + 17, f_useName), (ro + 18, f_usePlace), (ro + 19, f_user), (pg, f_prg), (pg + 1, f_prg_op), (pg + 2, f_prg_number), (pg + 3, f_prg_labelName), (pg + 4, f_prg_labelAt)]) (rv := some u2) [false, true, true, false, false, false, false, false, false, false, false] (hn _ _ _ _ _ _ _ _ _ _ _) rfl rfl (Nat.le_of_ble_eq_true rfl) hB.1 rfl [ro, ro + 1] rfl rfl rfl k44 ?_
    show RB _ _ _ _ _ [.int u2] _ _
    refine r_int ?_
    refine r_icmp1 (fun c4 : u2 = (-1) => ?_) (fun c4 : ¬ (u2 = (-1)) => ?_)
    · rw [if_pos c4] at hP
      have hO := hO.1 c4
      refine r_aload rfl ?_
      obtain ⟨h6, hO⟩ := hO
      have k43 := fun (Q' : Option Int32 → mMH → Prop) hq => tX5_readLabel (d := d + 0) (B := B) (v := mE v [(tp, f_tp), (ro, f_this), (ro + 1, f_names), (ro + 17, f_useName), (ro + 18, f_usePlace), (ro + 19, f_user), (pg, f_prg), (pg + 1, f_prg_op), (pg + 2, f_prg_number), (pg + 3, f_prg_labelName), (pg + 4, f_prg_labelAt)]) (w := w) (Q := Q') hB (by omega) (by omega) f_tp f_this f_prg f_prg_labelName f_prg_labelAt h6 hq
      generalize hg_u5 : FX5_readLabel f_tp f_this f_prg f_prg_labelName f_prg_labelAt = u5 at k43 hP hO
      try dsimp only at hP hO
      refine r_callM (st := []) (o := ro) (as := []) (envc := [(tp, f_tp), (ro, f_this), (pg, f_prg), (pg + 3, f_prg_labelName), (pg + 4, f_prg_labelAt)]) (envc' := [(tp, f_tp), (ro, u5.2.1), (pg, u5.2.2.1), (pg + 3, u5.2.2.2.1), (pg + 4, u5.2.2.2.2)]) (env' := [(tp, f_tp), (ro, u5.2.1), (ro + 1, f_names), (ro + 17, f_useName), (ro + 18, f_usePlace), (ro + 19, f_user), (pg, u5.2.2.1), (pg + 1, f_prg_op), (pg + 2, f_prg_number), (pg + 3, u5.2.2.2.1), (pg + 4, u5.2.2.2.2)]) (rv := none) [true, true, false, false, false, false, true, false, false, true, true] (hn _ _ _ _ _ _ _ _ _ _ _) rfl rfl (Nat.le_of_ble_eq_true rfl) hB.1 rfl [tp, ro, pg, pg + 3, pg + 4] rfl rfl rfl k43 ?_
      show RB _ _ _ _ _ [] _ _
      refine r_aload rfl ?_
      refine r_int ?_
      obtain ⟨h8, hO⟩ := hO
      have k42 := fun (Q' : Option Int32 → mMH → Prop) hq => tX5_takeSign (d := d + 0) (B := B) (v := mE v [(tp, f_tp), (ro, u5.2.1), (ro + 1, f_names), (ro + 17, f_useName), (ro + 18, f_usePlace), (ro + 19, f_user), (pg, u5.2.2.1), (pg + 1, f_prg_op), (pg + 2, f_prg_number), (pg + 3, u5.2.2.2.1), (pg + 4, u5.2.2.2.2)]) (w := w) (Q := Q') hB (by omega) (by omega) 58 f_tp u5.2.1 h8 hq
      generalize hg_u7 : FX5_takeSign 58 f_tp u5.2.1 = u7 at k42 hP hO
      try dsimp only at hP hO
      refine r_callM (st := []) (o := ro) (as := [.int 58]) (envc := [(tp, f_tp), (ro, u5.2.1)]) (envc' := [(tp, f_tp), (ro, u7.2)]) (env' := [(tp, f_tp), (ro, u7.2), (ro + 1, f_names), (ro + 17, f_useName), (ro + 18, f_usePlace), (ro + 19, f_user), (pg, u5.2.2.1), (pg + 1, f_prg_op), (pg + 2, f_prg_number), (pg + 3, u5.2.2.2.1), (pg + 4, u5.2.2.2.2)]) (rv := none) [true, true, false, false, false, false, false, false, false, false, false] (hn _ _ _ _ _ _ _ _ _ _ _) rfl rfl (Nat.le_of_ble_eq_true rfl) hB.1 rfl [tp, ro] rfl rfl rfl k42 ?_
      show RB _ _ _ _ _ [] _ _
      refine r_fall ?_
      exact tX5_readInstruction_b1 hB ht hpg hPQ none rfl none rfl u7.2 f_useName f_usePlace f_user u5.2.2.1 f_prg_op f_prg_number u5.2.2.2.1 u5.2.2.2.2 hO hP
    · rw [if_neg c4] at hP
      have hO := hO.2 c4
      exact tX5_readInstruction_b1 hB ht hpg hPQ none rfl none rfl f_this f_useName f_usePlace f_user f_prg f_prg_op f_prg_number f_prg_labelName f_prg_labelAt hO hP
  · rw [if_neg c1] at hP
    have hO := hO.2 c1
    exact tX5_readInstruction_b1 hB ht hpg hPQ none rfl none rfl f_this f_useName f_usePlace f_user f_prg f_prg_op f_prg_number f_prg_labelName f_prg_labelAt hO hP

def FX5_readLine (f_tp : mF) (f_this : mF) (f_names : mF) (f_useName : mF) (f_usePlace : mF) (f_user : mF) (f_prg : mF) (f_prg_op : mF) (f_prg_number : mF) (f_prg_labelName : mF) (f_prg_labelAt : mF) (f_prg_sender : mF) (f_prg_sendLink : mF) (f_prg_receiver : mF) (f_prg_receiveLink : mF) (f_prg_runMachine : mF) (f_prg_runW : mF) (f_prg_runPriority : mF) (f_prg_runAt : mF) (f_prg_memory : mF) : Int32 × mF × mF × mF × mF × mF × mF × mF × mF × mF × mF × mF × mF × mF × mF × mF × mF × mF × mF :=
  let u1 := FX5_name f_this f_names; if u1 = 39 then (let u4 := FX5_readSlice f_tp f_this f_prg; let u6 := FX5_takeSign 59 f_tp u4.2.1; (0, u6.2, f_useName, f_usePlace, f_user, u4.2.2, f_prg_op, f_prg_number, f_prg_labelName, f_prg_labelAt, f_prg_sender, f_prg_sendLink, f_prg_receiver, f_prg_receiveLink, f_prg_runMachine, f_prg_runW, f_prg_runPriority, f_prg_runAt, f_prg_memory)) else (if u1 = 40 then (let u11 := FX5_readWord f_tp f_this f_prg_memory; let u13 := FX5_takeSign 59 f_tp u11.2.1; (0, u13.2, f_useName, f_usePlace, f_user, f_prg, f_prg_op, f_prg_number, f_prg_labelName, f_prg_labelAt, f_prg_sender, f_prg_sendLink, f_prg_receiver, f_prg_receiveLink, f_prg_runMachine, f_prg_runW, f_prg_runPriority, f_prg_runAt, u11.2.2)) else (if u1 = 41 then (let u18 := FX5_readJoin f_tp f_this f_prg f_prg_sender f_prg_sendLink f_prg_receiver f_prg_receiveLink; let u20 := FX5_takeSign 59 f_tp u18.2.1; (0, u20.2, f_useName, f_usePlace, f_user, u18.2.2.1, f_prg_op, f_prg_number, f_prg_labelName, f_prg_labelAt, u18.2.2.2.1, u18.2.2.2.2.1, u18.2.2.2.2.2.1, u18.2.2.2.2.2.2, f_prg_runMachine, f_prg_runW, f_prg_runPriority, f_prg_runAt, f_prg_memory)) else (if u1 = 42 then (let u25 := FX5_readRun f_tp f_this f_names f_useName f_usePlace f_user f_prg f_prg_runMachine f_prg_runW f_prg_runPriority f_prg_runAt; let u27 := FX5_takeSign 59 f_tp u25.2.1; (0, u27.2, u25.2.2.1, u25.2.2.2.1, u25.2.2.2.2.1, u25.2.2.2.2.2.1, f_prg_op, f_prg_number, f_prg_labelName, f_prg_labelAt, f_prg_sender, f_prg_sendLink, f_prg_receiver, f_prg_receiveLink, u25.2.2.2.2.2.2.1, u25.2.2.2.2.2.2.2.1, u25.2.2.2.2.2.2.2.2.1, u25.2.2.2.2.2.2.2.2.2, f_prg_memory)) else (let u31 := FX5_readInstruction f_tp f_this f_names f_useName f_usePlace f_user f_prg f_prg_op f_prg_number f_prg_labelName f_prg_labelAt; let u33 := FX5_takeSign 59 f_tp u31.2.1; (0, u33.2, u31.2.2.1, u31.2.2.2.1, u31.2.2.2.2.1, u31.2.2.2.2.2.1, u31.2.2.2.2.2.2.1, u31.2.2.2.2.2.2.2.1, u31.2.2.2.2.2.2.2.2.1, u31.2.2.2.2.2.2.2.2.2, f_prg_sender, f_prg_sendLink, f_prg_receiver, f_prg_receiveLink, f_prg_runMachine, f_prg_runW, f_prg_runPriority, f_prg_runAt, f_prg_memory)))))
def OX5_readLine (f_tp : mF) (f_this : mF) (f_names : mF) (f_useName : mF) (f_usePlace : mF) (f_user : mF) (f_prg : mF) (f_prg_op : mF) (f_prg_number : mF) (f_prg_labelName : mF) (f_prg_labelAt : mF) (f_prg_sender : mF) (f_prg_sendLink : mF) (f_prg_receiver : mF) (f_prg_receiveLink : mF) (f_prg_runMachine : mF) (f_prg_runW : mF) (f_prg_runPriority : mF) (f_prg_runAt : mF) (f_prg_memory : mF) : Prop :=
  OX5_name f_this f_names ∧ (let u1 := FX5_name f_this f_names; (u1 = 39 → (OX5_readSlice f_tp f_this f_prg ∧ (let u4 := FX5_readSlice f_tp f_this f_prg; OX5_takeSign 59 f_tp u4.2.1))) ∧ (¬ (u1 = 39) → ((u1 = 40 → (OX5_readWord f_tp f_this f_prg_memory ∧ (let u11 := FX5_readWord f_tp f_this f_prg_memory; OX5_takeSign 59 f_tp u11.2.1))) ∧ (¬ (u1 = 40) → ((u1 = 41 → (OX5_readJoin f_tp f_this f_prg f_prg_sender f_prg_sendLink f_prg_receiver f_prg_receiveLink ∧ (let u18 := FX5_readJoin f_tp f_this f_prg f_prg_sender f_prg_sendLink f_prg_receiver f_prg_receiveLink; OX5_takeSign 59 f_tp u18.2.1))) ∧ (¬ (u1 = 41) → ((u1 = 42 → (OX5_readRun f_tp f_this f_names f_useName f_usePlace f_user f_prg f_prg_runMachine f_prg_runW f_prg_runPriority f_prg_runAt ∧ (let u25 := FX5_readRun f_tp f_this f_names f_useName f_usePlace f_user f_prg f_prg_runMachine f_prg_runW f_prg_runPriority f_prg_runAt; OX5_takeSign 59 f_tp u25.2.1))) ∧ (¬ (u1 = 42) → (OX5_readInstruction f_tp f_this f_names f_useName f_usePlace f_user f_prg f_prg_op f_prg_number f_prg_labelName f_prg_labelAt ∧ (let u31 := FX5_readInstruction f_tp f_this f_names f_useName f_usePlace f_user f_prg f_prg_op f_prg_number f_prg_labelName f_prg_labelAt; OX5_takeSign 59 f_tp u31.2.1))))))))))
set_option maxRecDepth 20000 in
theorem tX5_readLine {d : Nat} {B : mB} {v : mV} {w : mX} {Q : Option Int32 → mMH → Prop} {ro tp pg : Nat} (hB : isRead B ro tp pg) (ht : tp < ro) (hpg : ro + 20 ≤ pg) (f_tp : mF) (f_this : mF) (f_names : mF) (f_useName : mF) (f_usePlace : mF) (f_user : mF) (f_prg : mF) (f_prg_op : mF) (f_prg_number : mF) (f_prg_labelName : mF) (f_prg_labelAt : mF) (f_prg_sender : mF) (f_prg_sendLink : mF) (f_prg_receiver : mF) (f_prg_receiveLink : mF) (f_prg_runMachine : mF) (f_prg_runW : mF) (f_prg_runPriority : mF) (f_prg_runAt : mF) (f_prg_memory : mF) (hO : OX5_readLine f_tp f_this f_names f_useName f_usePlace f_user f_prg f_prg_op f_prg_number f_prg_labelName f_prg_labelAt f_prg_sender f_prg_sendLink f_prg_receiver f_prg_receiveLink f_prg_runMachine f_prg_runW f_prg_runPriority f_prg_runAt f_prg_memory) (hQ : Q (none) (mH B (mE v [(tp, f_tp), (ro, (FX5_readLine f_tp f_this f_names f_useName f_usePlace f_user f_prg f_prg_op f_prg_number f_prg_labelName f_prg_labelAt f_prg_sender f_prg_sendLink f_prg_receiver f_prg_receiveLink f_prg_runMachine f_prg_runW f_prg_runPriority f_prg_runAt f_prg_memory).2.1), (ro + 1, f_names), (ro + 17, (FX5_readLine f_tp f_this f_names f_useName f_usePlace f_user f_prg f_prg_op f_prg_number f_prg_labelName f_prg_labelAt f_prg_sender f_prg_sendLink f_prg_receiver f_prg_receiveLink f_prg_runMachine f_prg_runW f_prg_runPriority f_prg_runAt f_prg_memory).2.2.1), (ro + 18, (FX5_readLine f_tp f_this f_names f_useName f_usePlace f_user f_prg f_prg_op f_prg_number f_prg_labelName f_prg_labelAt f_prg_sender f_prg_sendLink f_prg_receiver f_prg_receiveLink f_prg_runMachine f_prg_runW f_prg_runPriority f_prg_runAt f_prg_memory).2.2.2.1), (ro + 19, (FX5_readLine f_tp f_this f_names f_useName f_usePlace f_user f_prg f_prg_op f_prg_number f_prg_labelName f_prg_labelAt f_prg_sender f_prg_sendLink f_prg_receiver f_prg_receiveLink f_prg_runMachine f_prg_runW f_prg_runPriority f_prg_runAt f_prg_memory).2.2.2.2.1), (pg, (FX5_readLine f_tp f_this f_names f_useName f_usePlace f_user f_prg f_prg_op f_prg_number f_prg_labelName f_prg_labelAt f_prg_sender f_prg_sendLink f_prg_receiver f_prg_receiveLink f_prg_runMachine f_prg_runW f_prg_runPriority f_prg_runAt f_prg_memory).2.2.2.2.2.1), (pg + 1, (FX5_readLine f_tp f_this f_names f_useName f_usePlace f_user f_prg f_prg_op f_prg_number f_prg_labelName f_prg_labelAt f_prg_sender f_prg_sendLink f_prg_receiver f_prg_receiveLink f_prg_runMachine f_prg_runW f_prg_runPriority f_prg_runAt f_prg_memory).2.2.2.2.2.2.1), (pg + 2, (FX5_readLine f_tp f_this f_names f_useName f_usePlace f_user f_prg f_prg_op f_prg_number f_prg_labelName f_prg_labelAt f_prg_sender f_prg_sendLink f_prg_receiver f_prg_receiveLink f_prg_runMachine f_prg_runW f_prg_runPriority f_prg_runAt f_prg_memory).2.2.2.2.2.2.2.1), (pg + 3, (FX5_readLine f_tp f_this f_names f_useName f_usePlace f_user f_prg f_prg_op f_prg_number f_prg_labelName f_prg_labelAt f_prg_sender f_prg_sendLink f_prg_receiver f_prg_receiveLink f_prg_runMachine f_prg_runW f_prg_runPriority f_prg_runAt f_prg_memory).2.2.2.2.2.2.2.2.1), (pg + 4, (FX5_readLine f_tp f_this f_names f_useName f_usePlace f_user f_prg f_prg_op f_prg_number f_prg_labelName f_prg_labelAt f_prg_sender f_prg_sendLink f_prg_receiver f_prg_receiveLink f_prg_runMachine f_prg_runW f_prg_runPriority f_prg_runAt f_prg_memory).2.2.2.2.2.2.2.2.2.1), (pg + 5, (FX5_readLine f_tp f_this f_names f_useName f_usePlace f_user f_prg f_prg_op f_prg_number f_prg_labelName f_prg_labelAt f_prg_sender f_prg_sendLink f_prg_receiver f_prg_receiveLink f_prg_runMachine f_prg_runW f_prg_runPriority f_prg_runAt f_prg_memory).2.2.2.2.2.2.2.2.2.2.1), (pg + 6, (FX5_readLine f_tp f_this f_names f_useName f_usePlace f_user f_prg f_prg_op f_prg_number f_prg_labelName f_prg_labelAt f_prg_sender f_prg_sendLink f_prg_receiver f_prg_receiveLink f_prg_runMachine f_prg_runW f_prg_runPriority f_prg_runAt f_prg_memory).2.2.2.2.2.2.2.2.2.2.2.1), (pg + 7, (FX5_readLine f_tp f_this f_names f_useName f_usePlace f_user f_prg f_prg_op f_prg_number f_prg_labelName f_prg_labelAt f_prg_sender f_prg_sendLink f_prg_receiver f_prg_receiveLink f_prg_runMachine f_prg_runW f_prg_runPriority f_prg_runAt f_prg_memory).2.2.2.2.2.2.2.2.2.2.2.2.1), (pg + 8, (FX5_readLine f_tp f_this f_names f_useName f_usePlace f_user f_prg f_prg_op f_prg_number f_prg_labelName f_prg_labelAt f_prg_sender f_prg_sendLink f_prg_receiver f_prg_receiveLink f_prg_runMachine f_prg_runW f_prg_runPriority f_prg_runAt f_prg_memory).2.2.2.2.2.2.2.2.2.2.2.2.2.1), (pg + 9, (FX5_readLine f_tp f_this f_names f_useName f_usePlace f_user f_prg f_prg_op f_prg_number f_prg_labelName f_prg_labelAt f_prg_sender f_prg_sendLink f_prg_receiver f_prg_receiveLink f_prg_runMachine f_prg_runW f_prg_runPriority f_prg_runAt f_prg_memory).2.2.2.2.2.2.2.2.2.2.2.2.2.2.1), (pg + 10, (FX5_readLine f_tp f_this f_names f_useName f_usePlace f_user f_prg f_prg_op f_prg_number f_prg_labelName f_prg_labelAt f_prg_sender f_prg_sendLink f_prg_receiver f_prg_receiveLink f_prg_runMachine f_prg_runW f_prg_runPriority f_prg_runAt f_prg_memory).2.2.2.2.2.2.2.2.2.2.2.2.2.2.2.1), (pg + 11, (FX5_readLine f_tp f_this f_names f_useName f_usePlace f_user f_prg f_prg_op f_prg_number f_prg_labelName f_prg_labelAt f_prg_sender f_prg_sendLink f_prg_receiver f_prg_receiveLink f_prg_runMachine f_prg_runW f_prg_runPriority f_prg_runAt f_prg_memory).2.2.2.2.2.2.2.2.2.2.2.2.2.2.2.2.1), (pg + 12, (FX5_readLine f_tp f_this f_names f_useName f_usePlace f_user f_prg f_prg_op f_prg_number f_prg_labelName f_prg_labelAt f_prg_sender f_prg_sendLink f_prg_receiver f_prg_receiveLink f_prg_runMachine f_prg_runW f_prg_runPriority f_prg_runAt f_prg_memory).2.2.2.2.2.2.2.2.2.2.2.2.2.2.2.2.2.1), (pg + 13, (FX5_readLine f_tp f_this f_names f_useName f_usePlace f_user f_prg f_prg_op f_prg_number f_prg_labelName f_prg_labelAt f_prg_sender f_prg_sendLink f_prg_receiver f_prg_receiveLink f_prg_runMachine f_prg_runW f_prg_runPriority f_prg_runAt f_prg_memory).2.2.2.2.2.2.2.2.2.2.2.2.2.2.2.2.2.2)]) w)) : CQ (d + 6) 90 [.ref ro] (mH B (mE v [(tp, f_tp), (ro, f_this), (ro + 1, f_names), (ro + 17, f_useName), (ro + 18, f_usePlace), (ro + 19, f_user), (pg, f_prg), (pg + 1, f_prg_op), (pg + 2, f_prg_number), (pg + 3, f_prg_labelName), (pg + 4, f_prg_labelAt), (pg + 5, f_prg_sender), (pg + 6, f_prg_sendLink), (pg + 7, f_prg_receiver), (pg + 8, f_prg_receiveLink), (pg + 9, f_prg_runMachine), (pg + 10, f_prg_runW), (pg + 11, f_prg_runPriority), (pg + 12, f_prg_runAt), (pg + 13, f_prg_memory)]) w) Q := by
  have hn : ∀ (f_tp : mF) (f_this : mF) (f_names : mF) (f_useName : mF) (f_usePlace : mF) (f_user : mF) (f_prg : mF) (f_prg_op : mF) (f_prg_number : mF) (f_prg_labelName : mF) (f_prg_labelAt : mF) (f_prg_sender : mF) (f_prg_sendLink : mF) (f_prg_receiver : mF) (f_prg_receiveLink : mF) (f_prg_runMachine : mF) (f_prg_runW : mF) (f_prg_runPriority : mF) (f_prg_runAt : mF) (f_prg_memory : mF), mNd [(tp, f_tp), (ro, f_this), (ro + 1, f_names), (ro + 17, f_useName), (ro + 18, f_usePlace), (ro + 19, f_user), (pg, f_prg), (pg + 1, f_prg_op), (pg + 2, f_prg_number), (pg + 3, f_prg_labelName), (pg + 4, f_prg_labelAt), (pg + 5, f_prg_sender), (pg + 6, f_prg_sendLink), (pg + 7, f_prg_receiver), (pg + 8, f_prg_receiveLink), (pg + 9, f_prg_runMachine), (pg + 10, f_prg_runW), (pg + 11, f_prg_runPriority), (pg + 12, f_prg_runAt), (pg + 13, f_prg_memory)] := fun _ _ _ _ _ _ _ _ _ _ _ _ _ _ _ _ _ _ _ _ => (nd3 tp ro pg 1 20 14 [0] [0, 1, 17, 18, 19] [0, 1, 2, 3, 4, 5, 6, 7, 8, 9, 10, 11, 12, 13] (by decide) (by decide) (by decide) (by decide) (by decide) (by decide) (by omega) (by omega))
  obtain ⟨P, hPQ, hP⟩ : ∃ P : Int32 × mF × mF × mF × mF × mF × mF × mF × mF × mF × mF × mF × mF × mF × mF × mF × mF × mF × mF → Prop, (∀ (q : Int32) (q0 : mF) (q1 : mF) (q2 : mF) (q3 : mF) (q4 : mF) (q5 : mF) (q6 : mF) (q7 : mF) (q8 : mF) (q9 : mF) (q10 : mF) (q11 : mF) (q12 : mF) (q13 : mF) (q14 : mF) (q15 : mF) (q16 : mF) (q17 : mF), P (q, q0, q1, q2, q3, q4, q5, q6, q7, q8, q9, q10, q11, q12, q13, q14, q15, q16, q17) → Q (none) (mH B (mE v [(tp, f_tp), (ro, q0), (ro + 1, f_names), (ro + 17, q1), (ro + 18, q2), (ro + 19, q3), (pg, q4), (pg + 1, q5), (pg + 2, q6), (pg + 3, q7), (pg + 4, q8), (pg + 5, q9), (pg + 6, q10), (pg + 7, q11), (pg + 8, q12), (pg + 9, q13), (pg + 10, q14), (pg + 11, q15), (pg + 12, q16), (pg + 13, q17)]) w)) ∧ P (FX5_readLine f_tp f_this f_names f_useName f_usePlace f_user f_prg f_prg_op f_prg_number f_prg_labelName f_prg_labelAt f_prg_sender f_prg_sendLink f_prg_receiver f_prg_receiveLink f_prg_runMachine f_prg_runW f_prg_runPriority f_prg_runAt f_prg_memory) := ⟨fun res => Q (none) (mH B (mE v [(tp, f_tp), (ro, res.2.1), (ro + 1, f_names), (ro + 17, res.2.2.1), (ro + 18, res.2.2.2.1), (ro + 19, res.2.2.2.2.1), (pg, res.2.2.2.2.2.1), (pg + 1, res.2.2.2.2.2.2.1), (pg + 2, res.2.2.2.2.2.2.2.1), (pg + 3, res.2.2.2.2.2.2.2.2.1), (pg + 4, res.2.2.2.2.2.2.2.2.2.1), (pg + 5, res.2.2.2.2.2.2.2.2.2.2.1), (pg + 6, res.2.2.2.2.2.2.2.2.2.2.2.1), (pg + 7, res.2.2.2.2.2.2.2.2.2.2.2.2.1), (pg + 8, res.2.2.2.2.2.2.2.2.2.2.2.2.2.1), (pg + 9, res.2.2.2.2.2.2.2.2.2.2.2.2.2.2.1), (pg + 10, res.2.2.2.2.2.2.2.2.2.2.2.2.2.2.2.1), (pg + 11, res.2.2.2.2.2.2.2.2.2.2.2.2.2.2.2.2.1), (pg + 12, res.2.2.2.2.2.2.2.2.2.2.2.2.2.2.2.2.2.1), (pg + 13, res.2.2.2.2.2.2.2.2.2.2.2.2.2.2.2.2.2.2)]) w), fun _ _ _ _ _ _ _ _ _ _ _ _ _ _ _ _ _ _ _ h => h, hQ⟩
  refine r_begin mt_90 (by intro a ha; simp only [List.mem_cons, List.not_mem_nil, or_false] at ha; rcases ha with rfl <;> rfl) (Nat.le_of_ble_eq_true rfl) ?_
  rw [FX5_readLine] at hP
  rw [OX5_readLine] at hO
  show RB _ _ _ _ [some (.ref ro), none] [] _ _
  refine r_aload rfl ?_
  obtain ⟨h2, hO⟩ := hO
  have k37 := fun (Q' : Option Int32 → mMH → Prop) hq => tX5_name (d := d + 4) (B := B) (v := mE v [(tp, f_tp), (ro, f_this), (ro + 1, f_names), (ro + 17, f_useName), (ro + 18, f_usePlace), (ro + 19, f_user), (pg, f_prg), (pg + 1, f_prg_op), (pg + 2, f_prg_number), (pg + 3, f_prg_labelName), (pg + 4, f_prg_labelAt), (pg + 5, f_prg_sender), (pg + 6, f_prg_sendLink), (pg + 7, f_prg_receiver), (pg + 8, f_prg_receiveLink), (pg + 9, f_prg_runMachine), (pg + 10, f_prg_runW), (pg + 11, f_prg_runPriority), (pg + 12, f_prg_runAt), (pg + 13, f_prg_memory)]) (w := w) (Q := Q') hB (by omega) (by omega) f_this f_names h2 hq
  generalize hg_u1 : FX5_name f_this f_names = u1 at k37 hP hO
  try dsimp only at hP hO
  refine r_callM (st := []) (o := ro) (as := []) (envc := [(ro, f_this), (ro + 1, f_names)]) (envc' := [(ro, f_this), (ro + 1, f_names)]) (env' := [(tp, f_tp), (ro, f_this), (ro + 1, f_names), (ro + 17, f_useName), (ro + 18, f_usePlace), (ro + 19, f_user), (pg, f_prg), (pg + 1, f_prg_op), (pg + 2, f_prg_number), (pg + 3, f_prg_labelName), (pg + 4, f_prg_labelAt), (pg + 5, f_prg_sender), (pg + 6, f_prg_sendLink), (pg + 7, f_prg_receiver), (pg + 8, f_prg_receiveLink), (pg + 9, f_prg_runMachine), (pg + 10, f_prg_runW), (pg + 11, f_prg_runPriority), (pg + 12, f_prg_runAt), (pg + 13, f_prg_memory)]) (rv := some u1) [false, true, true, false, false, false, false, false, false, false, false, false, false, false, false, false, false, false, false, false] (hn _ _ _ _ _ _ _ _ _ _ _ _ _ _ _ _ _ _ _ _) rfl rfl (Nat.le_of_ble_eq_true rfl) hB.1 rfl [ro, ro + 1] rfl rfl rfl k37 ?_
  show RB _ _ _ _ _ [.int u1] _ _
  refine r_istore (L' := [some (.ref ro), some (.int u1)]) rfl rfl ?_
  refine r_iload rfl ?_
  refine r_int ?_
  refine r_icmp1 (fun c3 : u1 = 39 => ?_) (fun c3 : ¬ (u1 = 39) => ?_)
  · rw [if_pos c3] at hP
    have hO := hO.1 c3
    refine r_aload rfl ?_
    obtain ⟨h5, hO⟩ := hO
    have k9 := fun (Q' : Option Int32 → mMH → Prop) hq => tX5_readSlice (d := d + 0) (B := B) (v := mE v [(tp, f_tp), (ro, f_this), (ro + 1, f_names), (ro + 17, f_useName), (ro + 18, f_usePlace), (ro + 19, f_user), (pg, f_prg), (pg + 1, f_prg_op), (pg + 2, f_prg_number), (pg + 3, f_prg_labelName), (pg + 4, f_prg_labelAt), (pg + 5, f_prg_sender), (pg + 6, f_prg_sendLink), (pg + 7, f_prg_receiver), (pg + 8, f_prg_receiveLink), (pg + 9, f_prg_runMachine), (pg + 10, f_prg_runW), (pg + 11, f_prg_runPriority), (pg + 12, f_prg_runAt), (pg + 13, f_prg_memory)]) (w := w) (Q := Q') hB (by omega) (by omega) f_tp f_this f_prg h5 hq
    generalize hg_u4 : FX5_readSlice f_tp f_this f_prg = u4 at k9 hP hO
    try dsimp only at hP hO
    refine r_callM (st := []) (o := ro) (as := []) (envc := [(tp, f_tp), (ro, f_this), (pg, f_prg)]) (envc' := [(tp, f_tp), (ro, u4.2.1), (pg, u4.2.2)]) (env' := [(tp, f_tp), (ro, u4.2.1), (ro + 1, f_names), (ro + 17, f_useName), (ro + 18, f_usePlace), (ro + 19, f_user), (pg, u4.2.2), (pg + 1, f_prg_op), (pg + 2, f_prg_number), (pg + 3, f_prg_labelName), (pg + 4, f_prg_labelAt), (pg + 5, f_prg_sender), (pg + 6, f_prg_sendLink), (pg + 7, f_prg_receiver), (pg + 8, f_prg_receiveLink), (pg + 9, f_prg_runMachine), (pg + 10, f_prg_runW), (pg + 11, f_prg_runPriority), (pg + 12, f_prg_runAt), (pg + 13, f_prg_memory)]) (rv := none) [true, true, false, false, false, false, true, false, false, false, false, false, false, false, false, false, false, false, false, false] (hn _ _ _ _ _ _ _ _ _ _ _ _ _ _ _ _ _ _ _ _) rfl rfl (Nat.le_of_ble_eq_true rfl) hB.1 rfl [tp, ro, pg] rfl rfl rfl k9 ?_
    show RB _ _ _ _ _ [] _ _
    refine r_goto ?_
    refine r_aload rfl ?_
    refine r_int ?_
    have h7 := hO
    have k8 := fun (Q' : Option Int32 → mMH → Prop) hq => tX5_takeSign (d := d + 1) (B := B) (v := mE v [(tp, f_tp), (ro, u4.2.1), (ro + 1, f_names), (ro + 17, f_useName), (ro + 18, f_usePlace), (ro + 19, f_user), (pg, u4.2.2), (pg + 1, f_prg_op), (pg + 2, f_prg_number), (pg + 3, f_prg_labelName), (pg + 4, f_prg_labelAt), (pg + 5, f_prg_sender), (pg + 6, f_prg_sendLink), (pg + 7, f_prg_receiver), (pg + 8, f_prg_receiveLink), (pg + 9, f_prg_runMachine), (pg + 10, f_prg_runW), (pg + 11, f_prg_runPriority), (pg + 12, f_prg_runAt), (pg + 13, f_prg_memory)]) (w := w) (Q := Q') hB (by omega) (by omega) 59 f_tp u4.2.1 h7 hq
    generalize hg_u6 : FX5_takeSign 59 f_tp u4.2.1 = u6 at k8 hP
    try dsimp only at hP
    refine r_callM (st := []) (o := ro) (as := [.int 59]) (envc := [(tp, f_tp), (ro, u4.2.1)]) (envc' := [(tp, f_tp), (ro, u6.2)]) (env' := [(tp, f_tp), (ro, u6.2), (ro + 1, f_names), (ro + 17, f_useName), (ro + 18, f_usePlace), (ro + 19, f_user), (pg, u4.2.2), (pg + 1, f_prg_op), (pg + 2, f_prg_number), (pg + 3, f_prg_labelName), (pg + 4, f_prg_labelAt), (pg + 5, f_prg_sender), (pg + 6, f_prg_sendLink), (pg + 7, f_prg_receiver), (pg + 8, f_prg_receiveLink), (pg + 9, f_prg_runMachine), (pg + 10, f_prg_runW), (pg + 11, f_prg_runPriority), (pg + 12, f_prg_runAt), (pg + 13, f_prg_memory)]) (rv := none) [true, true, false, false, false, false, false, false, false, false, false, false, false, false, false, false, false, false, false, false] (hn _ _ _ _ _ _ _ _ _ _ _ _ _ _ _ _ _ _ _ _) rfl rfl (Nat.le_of_ble_eq_true rfl) hB.1 rfl [tp, ro] rfl rfl rfl k8 ?_
    show RB _ _ _ _ _ [] _ _
    exact r_retv rfl (hPQ 0 u6.2 f_useName f_usePlace f_user u4.2.2 f_prg_op f_prg_number f_prg_labelName f_prg_labelAt f_prg_sender f_prg_sendLink f_prg_receiver f_prg_receiveLink f_prg_runMachine f_prg_runW f_prg_runPriority f_prg_runAt f_prg_memory hP)
  · rw [if_neg c3] at hP
    have hO := hO.2 c3
    refine r_iload rfl ?_
    refine r_int ?_
    refine r_icmp1 (fun c10 : u1 = 40 => ?_) (fun c10 : ¬ (u1 = 40) => ?_)
    · rw [if_pos c10] at hP
      have hO := hO.1 c10
      refine r_aload rfl ?_
      obtain ⟨h12, hO⟩ := hO
      have k16 := fun (Q' : Option Int32 → mMH → Prop) hq => tX5_readWord (d := d + 0) (B := B) (v := mE v [(tp, f_tp), (ro, f_this), (ro + 1, f_names), (ro + 17, f_useName), (ro + 18, f_usePlace), (ro + 19, f_user), (pg, f_prg), (pg + 1, f_prg_op), (pg + 2, f_prg_number), (pg + 3, f_prg_labelName), (pg + 4, f_prg_labelAt), (pg + 5, f_prg_sender), (pg + 6, f_prg_sendLink), (pg + 7, f_prg_receiver), (pg + 8, f_prg_receiveLink), (pg + 9, f_prg_runMachine), (pg + 10, f_prg_runW), (pg + 11, f_prg_runPriority), (pg + 12, f_prg_runAt), (pg + 13, f_prg_memory)]) (w := w) (Q := Q') hB (by omega) (by omega) f_tp f_this f_prg_memory h12 hq
      generalize hg_u11 : FX5_readWord f_tp f_this f_prg_memory = u11 at k16 hP hO
      try dsimp only at hP hO
      refine r_callM (st := []) (o := ro) (as := []) (envc := [(tp, f_tp), (ro, f_this), (pg + 13, f_prg_memory)]) (envc' := [(tp, f_tp), (ro, u11.2.1), (pg + 13, u11.2.2)]) (env' := [(tp, f_tp), (ro, u11.2.1), (ro + 1, f_names), (ro + 17, f_useName), (ro + 18, f_usePlace), (ro + 19, f_user), (pg, f_prg), (pg + 1, f_prg_op), (pg + 2, f_prg_number), (pg + 3, f_prg_labelName), (pg + 4, f_prg_labelAt), (pg + 5, f_prg_sender), (pg + 6, f_prg_sendLink), (pg + 7, f_prg_receiver), (pg + 8, f_prg_receiveLink), (pg + 9, f_prg_runMachine), (pg + 10, f_prg_runW), (pg + 11, f_prg_runPriority), (pg + 12, f_prg_runAt), (pg + 13, u11.2.2)]) (rv := none) [true, true, false, false, false, false, false, false, false, false, false, false, false, false, false, false, false, false, false, true] (hn _ _ _ _ _ _ _ _ _ _ _ _ _ _ _ _ _ _ _ _) rfl rfl (Nat.le_of_ble_eq_true rfl) hB.1 rfl [tp, ro, pg + 13] rfl rfl rfl k16 ?_
      show RB _ _ _ _ _ [] _ _
      refine r_goto ?_
      refine r_aload rfl ?_
      refine r_int ?_
      have h14 := hO
      have k15 := fun (Q' : Option Int32 → mMH → Prop) hq => tX5_takeSign (d := d + 1) (B := B) (v := mE v [(tp, f_tp), (ro, u11.2.1), (ro + 1, f_names), (ro + 17, f_useName), (ro + 18, f_usePlace), (ro + 19, f_user), (pg, f_prg), (pg + 1, f_prg_op), (pg + 2, f_prg_number), (pg + 3, f_prg_labelName), (pg + 4, f_prg_labelAt), (pg + 5, f_prg_sender), (pg + 6, f_prg_sendLink), (pg + 7, f_prg_receiver), (pg + 8, f_prg_receiveLink), (pg + 9, f_prg_runMachine), (pg + 10, f_prg_runW), (pg + 11, f_prg_runPriority), (pg + 12, f_prg_runAt), (pg + 13, u11.2.2)]) (w := w) (Q := Q') hB (by omega) (by omega) 59 f_tp u11.2.1 h14 hq
      generalize hg_u13 : FX5_takeSign 59 f_tp u11.2.1 = u13 at k15 hP
      try dsimp only at hP
      refine r_callM (st := []) (o := ro) (as := [.int 59]) (envc := [(tp, f_tp), (ro, u11.2.1)]) (envc' := [(tp, f_tp), (ro, u13.2)]) (env' := [(tp, f_tp), (ro, u13.2), (ro + 1, f_names), (ro + 17, f_useName), (ro + 18, f_usePlace), (ro + 19, f_user), (pg, f_prg), (pg + 1, f_prg_op), (pg + 2, f_prg_number), (pg + 3, f_prg_labelName), (pg + 4, f_prg_labelAt), (pg + 5, f_prg_sender), (pg + 6, f_prg_sendLink), (pg + 7, f_prg_receiver), (pg + 8, f_prg_receiveLink), (pg + 9, f_prg_runMachine), (pg + 10, f_prg_runW), (pg + 11, f_prg_runPriority), (pg + 12, f_prg_runAt), (pg + 13, u11.2.2)]) (rv := none) [true, true, false, false, false, false, false, false, false, false, false, false, false, false, false, false, false, false, false, false] (hn _ _ _ _ _ _ _ _ _ _ _ _ _ _ _ _ _ _ _ _) rfl rfl (Nat.le_of_ble_eq_true rfl) hB.1 rfl [tp, ro] rfl rfl rfl k15 ?_
      show RB _ _ _ _ _ [] _ _
      exact r_retv rfl (hPQ 0 u13.2 f_useName f_usePlace f_user f_prg f_prg_op f_prg_number f_prg_labelName f_prg_labelAt f_prg_sender f_prg_sendLink f_prg_receiver f_prg_receiveLink f_prg_runMachine f_prg_runW f_prg_runPriority f_prg_runAt u11.2.2 hP)
    · rw [if_neg c10] at hP
      have hO := hO.2 c10
      refine r_iload rfl ?_
      refine r_int ?_
      refine r_icmp1 (fun c17 : u1 = 41 => ?_) (fun c17 : ¬ (u1 = 41) => ?_)
      · rw [if_pos c17] at hP
        have hO := hO.1 c17
        refine r_aload rfl ?_
        obtain ⟨h19, hO⟩ := hO
        have k23 := fun (Q' : Option Int32 → mMH → Prop) hq => tX5_readJoin (d := d + 0) (B := B) (v := mE v [(tp, f_tp), (ro, f_this), (ro + 1, f_names), (ro + 17, f_useName), (ro + 18, f_usePlace), (ro + 19, f_user), (pg, f_prg), (pg + 1, f_prg_op), (pg + 2, f_prg_number), (pg + 3, f_prg_labelName), (pg + 4, f_prg_labelAt), (pg + 5, f_prg_sender), (pg + 6, f_prg_sendLink), (pg + 7, f_prg_receiver), (pg + 8, f_prg_receiveLink), (pg + 9, f_prg_runMachine), (pg + 10, f_prg_runW), (pg + 11, f_prg_runPriority), (pg + 12, f_prg_runAt), (pg + 13, f_prg_memory)]) (w := w) (Q := Q') hB (by omega) (by omega) f_tp f_this f_prg f_prg_sender f_prg_sendLink f_prg_receiver f_prg_receiveLink h19 hq
        generalize hg_u18 : FX5_readJoin f_tp f_this f_prg f_prg_sender f_prg_sendLink f_prg_receiver f_prg_receiveLink = u18 at k23 hP hO
        try dsimp only at hP hO
        refine r_callM (st := []) (o := ro) (as := []) (envc := [(tp, f_tp), (ro, f_this), (pg, f_prg), (pg + 5, f_prg_sender), (pg + 6, f_prg_sendLink), (pg + 7, f_prg_receiver), (pg + 8, f_prg_receiveLink)]) (envc' := [(tp, f_tp), (ro, u18.2.1), (pg, u18.2.2.1), (pg + 5, u18.2.2.2.1), (pg + 6, u18.2.2.2.2.1), (pg + 7, u18.2.2.2.2.2.1), (pg + 8, u18.2.2.2.2.2.2)]) (env' := [(tp, f_tp), (ro, u18.2.1), (ro + 1, f_names), (ro + 17, f_useName), (ro + 18, f_usePlace), (ro + 19, f_user), (pg, u18.2.2.1), (pg + 1, f_prg_op), (pg + 2, f_prg_number), (pg + 3, f_prg_labelName), (pg + 4, f_prg_labelAt), (pg + 5, u18.2.2.2.1), (pg + 6, u18.2.2.2.2.1), (pg + 7, u18.2.2.2.2.2.1), (pg + 8, u18.2.2.2.2.2.2), (pg + 9, f_prg_runMachine), (pg + 10, f_prg_runW), (pg + 11, f_prg_runPriority), (pg + 12, f_prg_runAt), (pg + 13, f_prg_memory)]) (rv := none) [true, true, false, false, false, false, true, false, false, false, false, true, true, true, true, false, false, false, false, false] (hn _ _ _ _ _ _ _ _ _ _ _ _ _ _ _ _ _ _ _ _) rfl rfl (Nat.le_of_ble_eq_true rfl) hB.1 rfl [tp, ro, pg, pg + 5, pg + 6, pg + 7, pg + 8] rfl rfl rfl k23 ?_
        show RB _ _ _ _ _ [] _ _
        refine r_goto ?_
        refine r_aload rfl ?_
        refine r_int ?_
        have h21 := hO
        have k22 := fun (Q' : Option Int32 → mMH → Prop) hq => tX5_takeSign (d := d + 1) (B := B) (v := mE v [(tp, f_tp), (ro, u18.2.1), (ro + 1, f_names), (ro + 17, f_useName), (ro + 18, f_usePlace), (ro + 19, f_user), (pg, u18.2.2.1), (pg + 1, f_prg_op), (pg + 2, f_prg_number), (pg + 3, f_prg_labelName), (pg + 4, f_prg_labelAt), (pg + 5, u18.2.2.2.1), (pg + 6, u18.2.2.2.2.1), (pg + 7, u18.2.2.2.2.2.1), (pg + 8, u18.2.2.2.2.2.2), (pg + 9, f_prg_runMachine), (pg + 10, f_prg_runW), (pg + 11, f_prg_runPriority), (pg + 12, f_prg_runAt), (pg + 13, f_prg_memory)]) (w := w) (Q := Q') hB (by omega) (by omega) 59 f_tp u18.2.1 h21 hq
        generalize hg_u20 : FX5_takeSign 59 f_tp u18.2.1 = u20 at k22 hP
        try dsimp only at hP
        refine r_callM (st := []) (o := ro) (as := [.int 59]) (envc := [(tp, f_tp), (ro, u18.2.1)]) (envc' := [(tp, f_tp), (ro, u20.2)]) (env' := [(tp, f_tp), (ro, u20.2), (ro + 1, f_names), (ro + 17, f_useName), (ro + 18, f_usePlace), (ro + 19, f_user), (pg, u18.2.2.1), (pg + 1, f_prg_op), (pg + 2, f_prg_number), (pg + 3, f_prg_labelName), (pg + 4, f_prg_labelAt), (pg + 5, u18.2.2.2.1), (pg + 6, u18.2.2.2.2.1), (pg + 7, u18.2.2.2.2.2.1), (pg + 8, u18.2.2.2.2.2.2), (pg + 9, f_prg_runMachine), (pg + 10, f_prg_runW), (pg + 11, f_prg_runPriority), (pg + 12, f_prg_runAt), (pg + 13, f_prg_memory)]) (rv := none) [true, true, false, false, false, false, false, false, false, false, false, false, false, false, false, false, false, false, false, false] (hn _ _ _ _ _ _ _ _ _ _ _ _ _ _ _ _ _ _ _ _) rfl rfl (Nat.le_of_ble_eq_true rfl) hB.1 rfl [tp, ro] rfl rfl rfl k22 ?_
        show RB _ _ _ _ _ [] _ _
        exact r_retv rfl (hPQ 0 u20.2 f_useName f_usePlace f_user u18.2.2.1 f_prg_op f_prg_number f_prg_labelName f_prg_labelAt u18.2.2.2.1 u18.2.2.2.2.1 u18.2.2.2.2.2.1 u18.2.2.2.2.2.2 f_prg_runMachine f_prg_runW f_prg_runPriority f_prg_runAt f_prg_memory hP)
      · rw [if_neg c17] at hP
        have hO := hO.2 c17
        refine r_iload rfl ?_
        refine r_int ?_
        refine r_icmp1 (fun c24 : u1 = 42 => ?_) (fun c24 : ¬ (u1 = 42) => ?_)
        · rw [if_pos c24] at hP
          have hO := hO.1 c24
          refine r_aload rfl ?_
          obtain ⟨h26, hO⟩ := hO
          have k30 := fun (Q' : Option Int32 → mMH → Prop) hq => tX5_readRun (d := d + 0) (B := B) (v := mE v [(tp, f_tp), (ro, f_this), (ro + 1, f_names), (ro + 17, f_useName), (ro + 18, f_usePlace), (ro + 19, f_user), (pg, f_prg), (pg + 1, f_prg_op), (pg + 2, f_prg_number), (pg + 3, f_prg_labelName), (pg + 4, f_prg_labelAt), (pg + 5, f_prg_sender), (pg + 6, f_prg_sendLink), (pg + 7, f_prg_receiver), (pg + 8, f_prg_receiveLink), (pg + 9, f_prg_runMachine), (pg + 10, f_prg_runW), (pg + 11, f_prg_runPriority), (pg + 12, f_prg_runAt), (pg + 13, f_prg_memory)]) (w := w) (Q := Q') hB (by omega) (by omega) f_tp f_this f_names f_useName f_usePlace f_user f_prg f_prg_runMachine f_prg_runW f_prg_runPriority f_prg_runAt h26 hq
          generalize hg_u25 : FX5_readRun f_tp f_this f_names f_useName f_usePlace f_user f_prg f_prg_runMachine f_prg_runW f_prg_runPriority f_prg_runAt = u25 at k30 hP hO
          try dsimp only at hP hO
          refine r_callM (st := []) (o := ro) (as := []) (envc := [(tp, f_tp), (ro, f_this), (ro + 1, f_names), (ro + 17, f_useName), (ro + 18, f_usePlace), (ro + 19, f_user), (pg, f_prg), (pg + 9, f_prg_runMachine), (pg + 10, f_prg_runW), (pg + 11, f_prg_runPriority), (pg + 12, f_prg_runAt)]) (envc' := [(tp, f_tp), (ro, u25.2.1), (ro + 1, f_names), (ro + 17, u25.2.2.1), (ro + 18, u25.2.2.2.1), (ro + 19, u25.2.2.2.2.1), (pg, u25.2.2.2.2.2.1), (pg + 9, u25.2.2.2.2.2.2.1), (pg + 10, u25.2.2.2.2.2.2.2.1), (pg + 11, u25.2.2.2.2.2.2.2.2.1), (pg + 12, u25.2.2.2.2.2.2.2.2.2)]) (env' := [(tp, f_tp), (ro, u25.2.1), (ro + 1, f_names), (ro + 17, u25.2.2.1), (ro + 18, u25.2.2.2.1), (ro + 19, u25.2.2.2.2.1), (pg, u25.2.2.2.2.2.1), (pg + 1, f_prg_op), (pg + 2, f_prg_number), (pg + 3, f_prg_labelName), (pg + 4, f_prg_labelAt), (pg + 5, f_prg_sender), (pg + 6, f_prg_sendLink), (pg + 7, f_prg_receiver), (pg + 8, f_prg_receiveLink), (pg + 9, u25.2.2.2.2.2.2.1), (pg + 10, u25.2.2.2.2.2.2.2.1), (pg + 11, u25.2.2.2.2.2.2.2.2.1), (pg + 12, u25.2.2.2.2.2.2.2.2.2), (pg + 13, f_prg_memory)]) (rv := none) [true, true, true, true, true, true, true, false, false, false, false, false, false, false, false, true, true, true, true, false] (hn _ _ _ _ _ _ _ _ _ _ _ _ _ _ _ _ _ _ _ _) rfl rfl (Nat.le_of_ble_eq_true rfl) hB.1 rfl [tp, ro, ro + 1, ro + 17, ro + 18, ro + 19, pg, pg + 9, pg + 10, pg + 11, pg + 12] rfl rfl rfl k30 ?_
          show RB _ _ _ _ _ [] _ _
          refine r_goto ?_
          refine r_aload rfl ?_
          refine r_int ?_
          have h28 := hO
          have k29 := fun (Q' : Option Int32 → mMH → Prop) hq => tX5_takeSign (d := d + 1) (B := B) (v := mE v [(tp, f_tp), (ro, u25.2.1), (ro + 1, f_names), (ro + 17, u25.2.2.1), (ro + 18, u25.2.2.2.1), (ro + 19, u25.2.2.2.2.1), (pg, u25.2.2.2.2.2.1), (pg + 1, f_prg_op), (pg + 2, f_prg_number), (pg + 3, f_prg_labelName), (pg + 4, f_prg_labelAt), (pg + 5, f_prg_sender), (pg + 6, f_prg_sendLink), (pg + 7, f_prg_receiver), (pg + 8, f_prg_receiveLink), (pg + 9, u25.2.2.2.2.2.2.1), (pg + 10, u25.2.2.2.2.2.2.2.1), (pg + 11, u25.2.2.2.2.2.2.2.2.1), (pg + 12, u25.2.2.2.2.2.2.2.2.2), (pg + 13, f_prg_memory)]) (w := w) (Q := Q') hB (by omega) (by omega) 59 f_tp u25.2.1 h28 hq
          generalize hg_u27 : FX5_takeSign 59 f_tp u25.2.1 = u27 at k29 hP
          try dsimp only at hP
          refine r_callM (st := []) (o := ro) (as := [.int 59]) (envc := [(tp, f_tp), (ro, u25.2.1)]) (envc' := [(tp, f_tp), (ro, u27.2)]) (env' := [(tp, f_tp), (ro, u27.2), (ro + 1, f_names), (ro + 17, u25.2.2.1), (ro + 18, u25.2.2.2.1), (ro + 19, u25.2.2.2.2.1), (pg, u25.2.2.2.2.2.1), (pg + 1, f_prg_op), (pg + 2, f_prg_number), (pg + 3, f_prg_labelName), (pg + 4, f_prg_labelAt), (pg + 5, f_prg_sender), (pg + 6, f_prg_sendLink), (pg + 7, f_prg_receiver), (pg + 8, f_prg_receiveLink), (pg + 9, u25.2.2.2.2.2.2.1), (pg + 10, u25.2.2.2.2.2.2.2.1), (pg + 11, u25.2.2.2.2.2.2.2.2.1), (pg + 12, u25.2.2.2.2.2.2.2.2.2), (pg + 13, f_prg_memory)]) (rv := none) [true, true, false, false, false, false, false, false, false, false, false, false, false, false, false, false, false, false, false, false] (hn _ _ _ _ _ _ _ _ _ _ _ _ _ _ _ _ _ _ _ _) rfl rfl (Nat.le_of_ble_eq_true rfl) hB.1 rfl [tp, ro] rfl rfl rfl k29 ?_
          show RB _ _ _ _ _ [] _ _
          exact r_retv rfl (hPQ 0 u27.2 u25.2.2.1 u25.2.2.2.1 u25.2.2.2.2.1 u25.2.2.2.2.2.1 f_prg_op f_prg_number f_prg_labelName f_prg_labelAt f_prg_sender f_prg_sendLink f_prg_receiver f_prg_receiveLink u25.2.2.2.2.2.2.1 u25.2.2.2.2.2.2.2.1 u25.2.2.2.2.2.2.2.2.1 u25.2.2.2.2.2.2.2.2.2 f_prg_memory hP)
        · rw [if_neg c24] at hP
          have hO := hO.2 c24
          refine r_aload rfl ?_
          obtain ⟨h32, hO⟩ := hO
          have k36 := fun (Q' : Option Int32 → mMH → Prop) hq => tX5_readInstruction (d := d + 0) (B := B) (v := mE v [(tp, f_tp), (ro, f_this), (ro + 1, f_names), (ro + 17, f_useName), (ro + 18, f_usePlace), (ro + 19, f_user), (pg, f_prg), (pg + 1, f_prg_op), (pg + 2, f_prg_number), (pg + 3, f_prg_labelName), (pg + 4, f_prg_labelAt), (pg + 5, f_prg_sender), (pg + 6, f_prg_sendLink), (pg + 7, f_prg_receiver), (pg + 8, f_prg_receiveLink), (pg + 9, f_prg_runMachine), (pg + 10, f_prg_runW), (pg + 11, f_prg_runPriority), (pg + 12, f_prg_runAt), (pg + 13, f_prg_memory)]) (w := w) (Q := Q') hB (by omega) (by omega) f_tp f_this f_names f_useName f_usePlace f_user f_prg f_prg_op f_prg_number f_prg_labelName f_prg_labelAt h32 hq
          generalize hg_u31 : FX5_readInstruction f_tp f_this f_names f_useName f_usePlace f_user f_prg f_prg_op f_prg_number f_prg_labelName f_prg_labelAt = u31 at k36 hP hO
          try dsimp only at hP hO
          refine r_callM (st := []) (o := ro) (as := []) (envc := [(tp, f_tp), (ro, f_this), (ro + 1, f_names), (ro + 17, f_useName), (ro + 18, f_usePlace), (ro + 19, f_user), (pg, f_prg), (pg + 1, f_prg_op), (pg + 2, f_prg_number), (pg + 3, f_prg_labelName), (pg + 4, f_prg_labelAt)]) (envc' := [(tp, f_tp), (ro, u31.2.1), (ro + 1, f_names), (ro + 17, u31.2.2.1), (ro + 18, u31.2.2.2.1), (ro + 19, u31.2.2.2.2.1), (pg, u31.2.2.2.2.2.1), (pg + 1, u31.2.2.2.2.2.2.1), (pg + 2, u31.2.2.2.2.2.2.2.1), (pg + 3, u31.2.2.2.2.2.2.2.2.1), (pg + 4, u31.2.2.2.2.2.2.2.2.2)]) (env' := [(tp, f_tp), (ro, u31.2.1), (ro + 1, f_names), (ro + 17, u31.2.2.1), (ro + 18, u31.2.2.2.1), (ro + 19, u31.2.2.2.2.1), (pg, u31.2.2.2.2.2.1), (pg + 1, u31.2.2.2.2.2.2.1), (pg + 2, u31.2.2.2.2.2.2.2.1), (pg + 3, u31.2.2.2.2.2.2.2.2.1), (pg + 4, u31.2.2.2.2.2.2.2.2.2), (pg + 5, f_prg_sender), (pg + 6, f_prg_sendLink), (pg + 7, f_prg_receiver), (pg + 8, f_prg_receiveLink), (pg + 9, f_prg_runMachine), (pg + 10, f_prg_runW), (pg + 11, f_prg_runPriority), (pg + 12, f_prg_runAt), (pg + 13, f_prg_memory)]) (rv := none) [true, true, true, true, true, true, true, true, true, true, true, false, false, false, false, false, false, false, false, false] (hn _ _ _ _ _ _ _ _ _ _ _ _ _ _ _ _ _ _ _ _) rfl rfl (Nat.le_of_ble_eq_true rfl) hB.1 rfl [tp, ro, ro + 1, ro + 17, ro + 18, ro + 19, pg, pg + 1, pg + 2, pg + 3, pg + 4] rfl rfl rfl k36 ?_
          show RB _ _ _ _ _ [] _ _
          refine r_fall ?_
          refine r_aload rfl ?_
          refine r_int ?_
          have h34 := hO
          have k35 := fun (Q' : Option Int32 → mMH → Prop) hq => tX5_takeSign (d := d + 1) (B := B) (v := mE v [(tp, f_tp), (ro, u31.2.1), (ro + 1, f_names), (ro + 17, u31.2.2.1), (ro + 18, u31.2.2.2.1), (ro + 19, u31.2.2.2.2.1), (pg, u31.2.2.2.2.2.1), (pg + 1, u31.2.2.2.2.2.2.1), (pg + 2, u31.2.2.2.2.2.2.2.1), (pg + 3, u31.2.2.2.2.2.2.2.2.1), (pg + 4, u31.2.2.2.2.2.2.2.2.2), (pg + 5, f_prg_sender), (pg + 6, f_prg_sendLink), (pg + 7, f_prg_receiver), (pg + 8, f_prg_receiveLink), (pg + 9, f_prg_runMachine), (pg + 10, f_prg_runW), (pg + 11, f_prg_runPriority), (pg + 12, f_prg_runAt), (pg + 13, f_prg_memory)]) (w := w) (Q := Q') hB (by omega) (by omega) 59 f_tp u31.2.1 h34 hq
          generalize hg_u33 : FX5_takeSign 59 f_tp u31.2.1 = u33 at k35 hP
          try dsimp only at hP
          refine r_callM (st := []) (o := ro) (as := [.int 59]) (envc := [(tp, f_tp), (ro, u31.2.1)]) (envc' := [(tp, f_tp), (ro, u33.2)]) (env' := [(tp, f_tp), (ro, u33.2), (ro + 1, f_names), (ro + 17, u31.2.2.1), (ro + 18, u31.2.2.2.1), (ro + 19, u31.2.2.2.2.1), (pg, u31.2.2.2.2.2.1), (pg + 1, u31.2.2.2.2.2.2.1), (pg + 2, u31.2.2.2.2.2.2.2.1), (pg + 3, u31.2.2.2.2.2.2.2.2.1), (pg + 4, u31.2.2.2.2.2.2.2.2.2), (pg + 5, f_prg_sender), (pg + 6, f_prg_sendLink), (pg + 7, f_prg_receiver), (pg + 8, f_prg_receiveLink), (pg + 9, f_prg_runMachine), (pg + 10, f_prg_runW), (pg + 11, f_prg_runPriority), (pg + 12, f_prg_runAt), (pg + 13, f_prg_memory)]) (rv := none) [true, true, false, false, false, false, false, false, false, false, false, false, false, false, false, false, false, false, false, false] (hn _ _ _ _ _ _ _ _ _ _ _ _ _ _ _ _ _ _ _ _) rfl rfl (Nat.le_of_ble_eq_true rfl) hB.1 rfl [tp, ro] rfl rfl rfl k35 ?_
          show RB _ _ _ _ _ [] _ _
          exact r_retv rfl (hPQ 0 u33.2 u31.2.2.1 u31.2.2.2.1 u31.2.2.2.2.1 u31.2.2.2.2.2.1 u31.2.2.2.2.2.2.1 u31.2.2.2.2.2.2.2.1 u31.2.2.2.2.2.2.2.2.1 u31.2.2.2.2.2.2.2.2.2 f_prg_sender f_prg_sendLink f_prg_receiver f_prg_receiveLink f_prg_runMachine f_prg_runW f_prg_runPriority f_prg_runAt f_prg_memory hP)

def FX5_findUses_b1 : Nat → Int32 → mF → mF → mF → mF → mF → mF → mF → mF → mF → mF × mF × mF
  | 0, _, f_this, _, _, _, _, f_prg_number, _, _, f_prg_runAt => (f_this, f_prg_number, f_prg_runAt)
  | n + 1, y1, f_this, f_useName, f_usePlace, f_user, f_prg, f_prg_number, f_prg_labelName, f_prg_labelAt, f_prg_runAt =>
    if (f_this 10) ≤ y1 then ((f_this, f_prg_number, f_prg_runAt)) else (if (f_this 9) = (-1) then (let u4 := FX4_placeOf (f_useName ((y1 : Int32).toNatClampNeg)) f_prg f_prg_labelName f_prg_labelAt; if u4 = (-1) then (let u8 := FX5_fail (f_usePlace ((y1 : Int32).toNatClampNeg)) 5 f_this; FX5_findUses_b1 n (y1 + 1) u8.2 f_useName f_usePlace f_user f_prg f_prg_number f_prg_labelName f_prg_labelAt f_prg_runAt) else (if 100 ≤ (f_user ((y1 : Int32).toNatClampNeg)) then (let g14 := upd f_prg_runAt (((f_user ((y1 : Int32).toNatClampNeg)) - 100 : Int32).toNatClampNeg) u4; FX5_findUses_b1 n (y1 + 1) f_this f_useName f_usePlace f_user f_prg f_prg_number f_prg_labelName f_prg_labelAt g14) else (let g17 := upd f_prg_number ((f_user ((y1 : Int32).toNatClampNeg) : Int32).toNatClampNeg) u4; FX5_findUses_b1 n (y1 + 1) f_this f_useName f_usePlace f_user f_prg g17 f_prg_labelName f_prg_labelAt f_prg_runAt))) else ((f_this, f_prg_number, f_prg_runAt)))
def OX5_findUses_b1 : Nat → Int32 → mF → mF → mF → mF → mF → mF → mF → mF → mF → Prop
  | 0, _, _, _, _, _, _, _, _, _, _ => False
  | n + 1, y1, f_this, f_useName, f_usePlace, f_user, f_prg, f_prg_number, f_prg_labelName, f_prg_labelAt, f_prg_runAt =>
    ((f_this 10) ≤ y1 → True) ∧ (¬ ((f_this 10) ≤ y1) → (((f_this 9) = (-1) → (vp_in y1 112 ∧ (OX4_placeOf (f_useName ((y1 : Int32).toNatClampNeg)) f_prg f_prg_labelName f_prg_labelAt ∧ (let u4 := FX4_placeOf (f_useName ((y1 : Int32).toNatClampNeg)) f_prg f_prg_labelName f_prg_labelAt; (u4 = (-1) → (vp_in y1 112 ∧ ((let u8 := FX5_fail (f_usePlace ((y1 : Int32).toNatClampNeg)) 5 f_this; OX5_findUses_b1 n (y1 + 1) u8.2 f_useName f_usePlace f_user f_prg f_prg_number f_prg_labelName f_prg_labelAt f_prg_runAt)))) ∧ (¬ (u4 = (-1)) → (vp_in y1 112 ∧ ((100 ≤ (f_user ((y1 : Int32).toNatClampNeg)) → (vp_in y1 112 ∧ (vp_in ((f_user ((y1 : Int32).toNatClampNeg)) - 100) 12 ∧ (let g14 := upd f_prg_runAt (((f_user ((y1 : Int32).toNatClampNeg)) - 100 : Int32).toNatClampNeg) u4; OX5_findUses_b1 n (y1 + 1) f_this f_useName f_usePlace f_user f_prg f_prg_number f_prg_labelName f_prg_labelAt g14)))) ∧ (¬ (100 ≤ (f_user ((y1 : Int32).toNatClampNeg))) → (vp_in y1 112 ∧ (vp_in (f_user ((y1 : Int32).toNatClampNeg)) 100 ∧ (let g17 := upd f_prg_number ((f_user ((y1 : Int32).toNatClampNeg) : Int32).toNatClampNeg) u4; OX5_findUses_b1 n (y1 + 1) f_this f_useName f_usePlace f_user f_prg g17 f_prg_labelName f_prg_labelAt f_prg_runAt))))))))))) ∧ (¬ ((f_this 9) = (-1)) → True)))
set_option maxRecDepth 20000 in
theorem tX5_findUses_b1 {d : Nat} {B : mB} {v : mV} {w : mX} {Q : Option Int32 → mMH → Prop} {ro tp pg : Nat} (hB : isRead B ro tp pg) (ht : tp < ro) (hpg : ro + 20 ≤ pg) {u : mF × mF × mF} {f_useName : mF} {f_usePlace : mF} {f_user : mF} {f_prg : mF} {f_prg_labelName : mF} {f_prg_labelAt : mF} (hK : ∀ (e0 : Option Value) (he0 : mC1 e0 = true) (e1 : Option Value) (he1 : mC1 e1 = true) (e2 : Option Value) (he2 : mC1 e2 = true), RJ (d + 1) kX5_findUses (none) 5 [e0, e1, e2] [] (mH B (mE v [(ro, u.1), (ro + 17, f_useName), (ro + 18, f_usePlace), (ro + 19, f_user), (pg, f_prg), (pg + 2, u.2.1), (pg + 3, f_prg_labelName), (pg + 4, f_prg_labelAt), (pg + 12, u.2.2)]) w) Q) : ∀ (n : Nat) (y1 : Int32) (e2 : Option Value) (he2 : mC1 e2 = true) (f_this : mF) (f_prg_number : mF) (f_prg_runAt : mF), OX5_findUses_b1 n y1 f_this f_useName f_usePlace f_user f_prg f_prg_number f_prg_labelName f_prg_labelAt f_prg_runAt → FX5_findUses_b1 n y1 f_this f_useName f_usePlace f_user f_prg f_prg_number f_prg_labelName f_prg_labelAt f_prg_runAt = u → RJ (d + 1) kX5_findUses (none) 1 [some (.ref ro), some (.int y1), e2] [] (mH B (mE v [(ro, f_this), (ro + 17, f_useName), (ro + 18, f_usePlace), (ro + 19, f_user), (pg, f_prg), (pg + 2, f_prg_number), (pg + 3, f_prg_labelName), (pg + 4, f_prg_labelAt), (pg + 12, f_prg_runAt)]) w) Q := by
  intro n
  induction n with
  | zero => exact fun _ _ _ _ _ _ hO => hO.elim
  | succ n ih1 =>
    intro y1 e2 he2 f_this f_prg_number f_prg_runAt hO hP
    rw [FX5_findUses_b1] at hP
    rw [OX5_findUses_b1] at hO
    have hn : ∀ (f_this : mF) (f_useName : mF) (f_usePlace : mF) (f_user : mF) (f_prg : mF) (f_prg_number : mF) (f_prg_labelName : mF) (f_prg_labelAt : mF) (f_prg_runAt : mF), mNd [(ro, f_this), (ro + 17, f_useName), (ro + 18, f_usePlace), (ro + 19, f_user), (pg, f_prg), (pg + 2, f_prg_number), (pg + 3, f_prg_labelName), (pg + 4, f_prg_labelAt), (pg + 12, f_prg_runAt)] := fun _ _ _ _ _ _ _ _ _ => by
      show List.Nodup _
      simp only [List.map_cons, List.map_nil, List.nodup_cons, List.mem_cons, List.not_mem_nil, or_false, not_or, not_false_eq_true, List.nodup_nil, and_true]
      omega
    show RB _ _ _ _ [some (.ref ro), some (.int y1), e2] [] _ _
    refine r_iload rfl ?_
    refine r_aload rfl ?_
    refine r_get (x := f_this 10) 0 (hn _ _ _ _ _ _ _ _ _) rfl hB.1 (by decide) rfl ?_
    refine r_icmp (fun c1 : (f_this 10) ≤ y1 => ?_) (fun c1 : ¬ ((f_this 10) ≤ y1) => ?_)
    · rw [if_pos c1] at hP
      have hO := hO.1 c1
      subst hP
      exact hK (some (.ref ro)) rfl (some (.int y1)) rfl e2 he2
    · rw [if_neg c1] at hP
      have hO := hO.2 c1
      refine r_aload rfl ?_
      refine r_get (x := f_this 9) 0 (hn _ _ _ _ _ _ _ _ _) rfl hB.1 (by decide) rfl ?_
      refine r_int ?_
      refine r_icmp1 (fun c2 : (f_this 9) = (-1) => ?_) (fun c2 : ¬ ((f_this 9) = (-1)) => ?_)
      · rw [if_pos c2] at hP
        have hO := hO.1 c2
        refine r_aload rfl ?_
        refine r_getr (q := pg) hB.1 hB.2.2.2.2.2.2.2.2.2.1 ?_
        refine r_aload rfl ?_
        refine r_getr (q := ro + 17) hB.1 hB.2.2.2.2.2.2.2.2.2.2.1 ?_
        refine r_iload rfl ?_
        obtain ⟨h3, hO⟩ := hO
        refine r_ald (x := f_useName ((y1 : Int32).toNatClampNeg)) 1 ((y1 : Int32).toNatClampNeg) (hn _ _ _ _ _ _ _ _ _) rfl hB.2.2.1 (by decide) rfl h3 rfl rfl ?_
        obtain ⟨h5, hO⟩ := hO
        have k18 := fun (Q' : Option Int32 → mMH → Prop) hq => tX4_placeOf (d := d + 0) (B := B) (v := mE v [(ro, f_this), (ro + 17, f_useName), (ro + 18, f_usePlace), (ro + 19, f_user), (pg, f_prg), (pg + 2, f_prg_number), (pg + 3, f_prg_labelName), (pg + 4, f_prg_labelAt), (pg + 12, f_prg_runAt)]) (w := w) (Q := Q') hB.2.2.2.2.2.2.1 (f_useName ((y1 : Int32).toNatClampNeg)) f_prg f_prg_labelName f_prg_labelAt h5 hq
        generalize hg_u4 : FX4_placeOf (f_useName ((y1 : Int32).toNatClampNeg)) f_prg f_prg_labelName f_prg_labelAt = u4 at k18 hP hO
        try dsimp only at hP hO
        refine r_callM (st := []) (o := pg) (as := [.int (f_useName ((y1 : Int32).toNatClampNeg))]) (envc := [(pg, f_prg), (pg + 3, f_prg_labelName), (pg + 4, f_prg_labelAt)]) (envc' := [(pg, f_prg), (pg + 3, f_prg_labelName), (pg + 4, f_prg_labelAt)]) (env' := [(ro, f_this), (ro + 17, f_useName), (ro + 18, f_usePlace), (ro + 19, f_user), (pg, f_prg), (pg + 2, f_prg_number), (pg + 3, f_prg_labelName), (pg + 4, f_prg_labelAt), (pg + 12, f_prg_runAt)]) (rv := some u4) [false, false, false, false, true, false, true, true, false] (hn _ _ _ _ _ _ _ _ _) rfl rfl (Nat.le_of_ble_eq_true rfl) hB.2.2.2.2.2.2.1.1 rfl [pg, pg + 3, pg + 4] rfl rfl rfl k18 ?_
        show RB _ _ _ _ _ [.int u4] _ _
        refine r_istore (L' := [some (.ref ro), some (.int y1), some (.int u4)]) rfl rfl ?_
        refine r_iload rfl ?_
        refine r_int ?_
        refine r_icmp1 (fun c6 : u4 = (-1) => ?_) (fun c6 : ¬ (u4 = (-1)) => ?_)
        · rw [if_pos c6] at hP
          have hO := hO.1 c6
          refine r_aload rfl ?_
          refine r_aload rfl ?_
          refine r_getr (q := ro + 18) hB.1 hB.2.2.2.2.2.2.2.2.2.2.2.1 ?_
          refine r_iload rfl ?_
          obtain ⟨h7, hO⟩ := hO
          refine r_ald (x := f_usePlace ((y1 : Int32).toNatClampNeg)) 2 ((y1 : Int32).toNatClampNeg) (hn _ _ _ _ _ _ _ _ _) rfl hB.2.2.2.1 (by decide) rfl h7 rfl rfl ?_
          refine r_int ?_
          have k9 := fun (Q' : Option Int32 → mMH → Prop) hq => tX5_fail (d := d + 0) (B := B) (v := mE v [(ro, f_this), (ro + 17, f_useName), (ro + 18, f_usePlace), (ro + 19, f_user), (pg, f_prg), (pg + 2, f_prg_number), (pg + 3, f_prg_labelName), (pg + 4, f_prg_labelAt), (pg + 12, f_prg_runAt)]) (w := w) (Q := Q') hB (by omega) (by omega) (f_usePlace ((y1 : Int32).toNatClampNeg)) 5 f_this hq
          generalize hg_u8 : FX5_fail (f_usePlace ((y1 : Int32).toNatClampNeg)) 5 f_this = u8 at k9 hP hO
          try dsimp only at hP hO
          refine r_callM (st := []) (o := ro) (as := [.int (f_usePlace ((y1 : Int32).toNatClampNeg)), .int 5]) (envc := [(ro, f_this)]) (envc' := [(ro, u8.2)]) (env' := [(ro, u8.2), (ro + 17, f_useName), (ro + 18, f_usePlace), (ro + 19, f_user), (pg, f_prg), (pg + 2, f_prg_number), (pg + 3, f_prg_labelName), (pg + 4, f_prg_labelAt), (pg + 12, f_prg_runAt)]) (rv := none) [true, false, false, false, false, false, false, false, false] (hn _ _ _ _ _ _ _ _ _) rfl rfl (Nat.le_of_ble_eq_true rfl) hB.1 rfl [ro] rfl rfl rfl k9 ?_
          show RB _ _ _ _ _ [] _ _
          refine r_goto ?_
          refine r_iinc (L' := [some (.ref ro), some (.int (y1 + 1)), some (.int u4)]) rfl rfl rfl ?_
          refine r_goto ?_
          exact ih1 (y1 + 1) (some (.int u4)) rfl u8.2 f_prg_number f_prg_runAt hO hP
        · rw [if_neg c6] at hP
          have hO := hO.2 c6
          refine r_aload rfl ?_
          refine r_getr (q := ro + 19) hB.1 hB.2.2.2.2.2.2.2.2.2.2.2.2 ?_
          refine r_iload rfl ?_
          obtain ⟨h10, hO⟩ := hO
          refine r_ald (x := f_user ((y1 : Int32).toNatClampNeg)) 3 ((y1 : Int32).toNatClampNeg) (hn _ _ _ _ _ _ _ _ _) rfl hB.2.2.2.2.1 (by decide) rfl h10 rfl rfl ?_
          refine r_int ?_
          refine r_icmp (fun c11 : 100 ≤ (f_user ((y1 : Int32).toNatClampNeg)) => ?_) (fun c11 : ¬ (100 ≤ (f_user ((y1 : Int32).toNatClampNeg))) => ?_)
          · rw [if_pos c11] at hP
            have hO := hO.1 c11
            refine r_aload rfl ?_
            refine r_getr (q := pg) hB.1 hB.2.2.2.2.2.2.2.2.2.1 ?_
            refine r_getr (q := pg + 12) hB.2.2.2.2.2.2.1.1 hB.2.2.2.2.2.2.1.2.2.2.2.2.2.2.2.2.2.2.2.2.2.2.2.2.2.2.2.2.2.2.2.2.1 ?_
            refine r_aload rfl ?_
            refine r_getr (q := ro + 19) hB.1 hB.2.2.2.2.2.2.2.2.2.2.2.2 ?_
            refine r_iload rfl ?_
            obtain ⟨h12, hO⟩ := hO
            refine r_ald (x := f_user ((y1 : Int32).toNatClampNeg)) 3 ((y1 : Int32).toNatClampNeg) (hn _ _ _ _ _ _ _ _ _) rfl hB.2.2.2.2.1 (by decide) rfl h12 rfl rfl ?_
            refine r_int ?_
            refine r_isub ?_
            refine r_iload rfl ?_
            obtain ⟨h13, hO⟩ := hO
            refine r_ast (y := u4) (env' := [(ro, f_this), (ro + 17, f_useName), (ro + 18, f_usePlace), (ro + 19, f_user), (pg, f_prg), (pg + 2, f_prg_number), (pg + 3, f_prg_labelName), (pg + 4, f_prg_labelAt), (pg + 12, (upd f_prg_runAt (((f_user ((y1 : Int32).toNatClampNeg)) - 100 : Int32).toNatClampNeg) u4))]) 8 (((f_user ((y1 : Int32).toNatClampNeg)) - 100 : Int32).toNatClampNeg) (hn _ _ _ _ _ _ _ _ _) rfl hB.2.2.2.2.2.2.1.2.2.2.2.2.2.2.2.2.2.2.2.1 (by decide) rfl h13 rfl rfl rfl ?_
            generalize hg_g14 : upd f_prg_runAt (((f_user ((y1 : Int32).toNatClampNeg)) - 100 : Int32).toNatClampNeg) u4 = g14 at hP hO ⊢
            try dsimp only at hP hO
            refine r_fall ?_
            refine r_iinc (L' := [some (.ref ro), some (.int (y1 + 1)), some (.int u4)]) rfl rfl rfl ?_
            refine r_goto ?_
            exact ih1 (y1 + 1) (some (.int u4)) rfl f_this f_prg_number g14 hO hP
          · rw [if_neg c11] at hP
            have hO := hO.2 c11
            refine r_aload rfl ?_
            refine r_getr (q := pg) hB.1 hB.2.2.2.2.2.2.2.2.2.1 ?_
            refine r_getr (q := pg + 2) hB.2.2.2.2.2.2.1.1 hB.2.2.2.2.2.2.1.2.2.2.2.2.2.2.2.2.2.2.2.2.2.2.1 ?_
            refine r_aload rfl ?_
            refine r_getr (q := ro + 19) hB.1 hB.2.2.2.2.2.2.2.2.2.2.2.2 ?_
            refine r_iload rfl ?_
            obtain ⟨h15, hO⟩ := hO
            refine r_ald (x := f_user ((y1 : Int32).toNatClampNeg)) 3 ((y1 : Int32).toNatClampNeg) (hn _ _ _ _ _ _ _ _ _) rfl hB.2.2.2.2.1 (by decide) rfl h15 rfl rfl ?_
            refine r_iload rfl ?_
            obtain ⟨h16, hO⟩ := hO
            refine r_ast (y := u4) (env' := [(ro, f_this), (ro + 17, f_useName), (ro + 18, f_usePlace), (ro + 19, f_user), (pg, f_prg), (pg + 2, (upd f_prg_number ((f_user ((y1 : Int32).toNatClampNeg) : Int32).toNatClampNeg) u4)), (pg + 3, f_prg_labelName), (pg + 4, f_prg_labelAt), (pg + 12, f_prg_runAt)]) 5 ((f_user ((y1 : Int32).toNatClampNeg) : Int32).toNatClampNeg) (hn _ _ _ _ _ _ _ _ _) rfl hB.2.2.2.2.2.2.1.2.2.1 (by decide) rfl h16 rfl rfl rfl ?_
            generalize hg_g17 : upd f_prg_number ((f_user ((y1 : Int32).toNatClampNeg) : Int32).toNatClampNeg) u4 = g17 at hP hO ⊢
            try dsimp only at hP hO
            refine r_goto ?_
            refine r_iinc (L' := [some (.ref ro), some (.int (y1 + 1)), some (.int u4)]) rfl rfl rfl ?_
            refine r_goto ?_
            exact ih1 (y1 + 1) (some (.int u4)) rfl f_this g17 f_prg_runAt hO hP
      · rw [if_neg c2] at hP
        have hO := hO.2 c2
        subst hP
        exact hK (some (.ref ro)) rfl (some (.int y1)) rfl e2 he2
def FX5_findUses (f_this : mF) (f_useName : mF) (f_usePlace : mF) (f_user : mF) (f_prg : mF) (f_prg_number : mF) (f_prg_labelName : mF) (f_prg_labelAt : mF) (f_prg_runAt : mF) : Int32 × mF × mF × mF :=
  let u19 := FX5_findUses_b1 10000 0 f_this f_useName f_usePlace f_user f_prg f_prg_number f_prg_labelName f_prg_labelAt f_prg_runAt; (0, u19.1, u19.2.1, u19.2.2)
def OX5_findUses (f_this : mF) (f_useName : mF) (f_usePlace : mF) (f_user : mF) (f_prg : mF) (f_prg_number : mF) (f_prg_labelName : mF) (f_prg_labelAt : mF) (f_prg_runAt : mF) : Prop :=
  OX5_findUses_b1 10000 0 f_this f_useName f_usePlace f_user f_prg f_prg_number f_prg_labelName f_prg_labelAt f_prg_runAt
set_option maxRecDepth 20000 in
theorem tX5_findUses {d : Nat} {B : mB} {v : mV} {w : mX} {Q : Option Int32 → mMH → Prop} {ro tp pg : Nat} (hB : isRead B ro tp pg) (ht : tp < ro) (hpg : ro + 20 ≤ pg) (f_this : mF) (f_useName : mF) (f_usePlace : mF) (f_user : mF) (f_prg : mF) (f_prg_number : mF) (f_prg_labelName : mF) (f_prg_labelAt : mF) (f_prg_runAt : mF) (hO : OX5_findUses f_this f_useName f_usePlace f_user f_prg f_prg_number f_prg_labelName f_prg_labelAt f_prg_runAt) (hQ : Q (none) (mH B (mE v [(ro, (FX5_findUses f_this f_useName f_usePlace f_user f_prg f_prg_number f_prg_labelName f_prg_labelAt f_prg_runAt).2.1), (ro + 17, f_useName), (ro + 18, f_usePlace), (ro + 19, f_user), (pg, f_prg), (pg + 2, (FX5_findUses f_this f_useName f_usePlace f_user f_prg f_prg_number f_prg_labelName f_prg_labelAt f_prg_runAt).2.2.1), (pg + 3, f_prg_labelName), (pg + 4, f_prg_labelAt), (pg + 12, (FX5_findUses f_this f_useName f_usePlace f_user f_prg f_prg_number f_prg_labelName f_prg_labelAt f_prg_runAt).2.2.2)]) w)) : CQ (d + 2) 83 [.ref ro] (mH B (mE v [(ro, f_this), (ro + 17, f_useName), (ro + 18, f_usePlace), (ro + 19, f_user), (pg, f_prg), (pg + 2, f_prg_number), (pg + 3, f_prg_labelName), (pg + 4, f_prg_labelAt), (pg + 12, f_prg_runAt)]) w) Q := by
  have hn : ∀ (f_this : mF) (f_useName : mF) (f_usePlace : mF) (f_user : mF) (f_prg : mF) (f_prg_number : mF) (f_prg_labelName : mF) (f_prg_labelAt : mF) (f_prg_runAt : mF), mNd [(ro, f_this), (ro + 17, f_useName), (ro + 18, f_usePlace), (ro + 19, f_user), (pg, f_prg), (pg + 2, f_prg_number), (pg + 3, f_prg_labelName), (pg + 4, f_prg_labelAt), (pg + 12, f_prg_runAt)] := fun _ _ _ _ _ _ _ _ _ => by
    show List.Nodup _
    simp only [List.map_cons, List.map_nil, List.nodup_cons, List.mem_cons, List.not_mem_nil, or_false, not_or, not_false_eq_true, List.nodup_nil, and_true]
    omega
  obtain ⟨P, hPQ, hP⟩ : ∃ P : Int32 × mF × mF × mF → Prop, (∀ (q : Int32) (q0 : mF) (q1 : mF) (q2 : mF), P (q, q0, q1, q2) → Q (none) (mH B (mE v [(ro, q0), (ro + 17, f_useName), (ro + 18, f_usePlace), (ro + 19, f_user), (pg, f_prg), (pg + 2, q1), (pg + 3, f_prg_labelName), (pg + 4, f_prg_labelAt), (pg + 12, q2)]) w)) ∧ P (FX5_findUses f_this f_useName f_usePlace f_user f_prg f_prg_number f_prg_labelName f_prg_labelAt f_prg_runAt) := ⟨fun res => Q (none) (mH B (mE v [(ro, res.2.1), (ro + 17, f_useName), (ro + 18, f_usePlace), (ro + 19, f_user), (pg, f_prg), (pg + 2, res.2.2.1), (pg + 3, f_prg_labelName), (pg + 4, f_prg_labelAt), (pg + 12, res.2.2.2)]) w), fun _ _ _ _ h => h, hQ⟩
  refine r_begin mt_83 (by intro a ha; simp only [List.mem_cons, List.not_mem_nil, or_false] at ha; rcases ha with rfl <;> rfl) (Nat.le_of_ble_eq_true rfl) ?_
  rw [FX5_findUses] at hP
  rw [OX5_findUses] at hO
  show RB _ _ _ _ [some (.ref ro), none, none] [] _ _
  refine r_int ?_
  refine r_istore (L' := [some (.ref ro), some (.int 0), none]) rfl rfl ?_
  refine r_fall ?_
  have h20 := hO
  generalize hg_u19 : FX5_findUses_b1 10000 0 f_this f_useName f_usePlace f_user f_prg f_prg_number f_prg_labelName f_prg_labelAt f_prg_runAt = u19 at hP
  try dsimp only at hP
  refine tX5_findUses_b1 hB ht hpg (u := u19) (f_useName := f_useName) (f_usePlace := f_usePlace) (f_user := f_user) (f_prg := f_prg) (f_prg_labelName := f_prg_labelName) (f_prg_labelAt := f_prg_labelAt) ?_ 10000 0 none rfl f_this f_prg_number f_prg_runAt h20 hg_u19
  intro e21 he21 e22 he22 e23 he23
  exact r_retv rfl (hPQ 0 u19.1 u19.2.1 u19.2.2 hP)

def FX5_read_b1 : Nat → Int32 → mF → mF → mF → mF → mF → mF → mF → mF → mF → mF → mF → mF → mF → mF → mF → mF → mF → mF → mF → mF → mF × mF × mF × mF × mF × mF × mF × mF × mF × mF × mF × mF × mF × mF × mF × mF × mF × mF
  | 0, _, _, f_this, _, f_useName, f_usePlace, f_user, f_prg, f_prg_op, f_prg_number, f_prg_labelName, f_prg_labelAt, f_prg_sender, f_prg_sendLink, f_prg_receiver, f_prg_receiveLink, f_prg_runMachine, f_prg_runW, f_prg_runPriority, f_prg_runAt, f_prg_memory => (f_this, f_useName, f_usePlace, f_user, f_prg, f_prg_op, f_prg_number, f_prg_labelName, f_prg_labelAt, f_prg_sender, f_prg_sendLink, f_prg_receiver, f_prg_receiveLink, f_prg_runMachine, f_prg_runW, f_prg_runPriority, f_prg_runAt, f_prg_memory)
  | n + 1, y4, f_tp, f_this, f_names, f_useName, f_usePlace, f_user, f_prg, f_prg_op, f_prg_number, f_prg_labelName, f_prg_labelAt, f_prg_sender, f_prg_sendLink, f_prg_receiver, f_prg_receiveLink, f_prg_runMachine, f_prg_runW, f_prg_runPriority, f_prg_runAt, f_prg_memory =>
    if (f_this 2) < y4 then ((f_this, f_useName, f_usePlace, f_user, f_prg, f_prg_op, f_prg_number, f_prg_labelName, f_prg_labelAt, f_prg_sender, f_prg_sendLink, f_prg_receiver, f_prg_receiveLink, f_prg_runMachine, f_prg_runW, f_prg_runPriority, f_prg_runAt, f_prg_memory)) else (if (f_this 5) = 0 then ((f_this, f_useName, f_usePlace, f_user, f_prg, f_prg_op, f_prg_number, f_prg_labelName, f_prg_labelAt, f_prg_sender, f_prg_sendLink, f_prg_receiver, f_prg_receiveLink, f_prg_runMachine, f_prg_runW, f_prg_runPriority, f_prg_runAt, f_prg_memory)) else (if (f_this 9) = (-1) then (let u8 := FX5_readLine f_tp f_this f_names f_useName f_usePlace f_user f_prg f_prg_op f_prg_number f_prg_labelName f_prg_labelAt f_prg_sender f_prg_sendLink f_prg_receiver f_prg_receiveLink f_prg_runMachine f_prg_runW f_prg_runPriority f_prg_runAt f_prg_memory; FX5_read_b1 n (y4 + 1) f_tp u8.2.1 f_names u8.2.2.1 u8.2.2.2.1 u8.2.2.2.2.1 u8.2.2.2.2.2.1 u8.2.2.2.2.2.2.1 u8.2.2.2.2.2.2.2.1 u8.2.2.2.2.2.2.2.2.1 u8.2.2.2.2.2.2.2.2.2.1 u8.2.2.2.2.2.2.2.2.2.2.1 u8.2.2.2.2.2.2.2.2.2.2.2.1 u8.2.2.2.2.2.2.2.2.2.2.2.2.1 u8.2.2.2.2.2.2.2.2.2.2.2.2.2.1 u8.2.2.2.2.2.2.2.2.2.2.2.2.2.2.1 u8.2.2.2.2.2.2.2.2.2.2.2.2.2.2.2.1 u8.2.2.2.2.2.2.2.2.2.2.2.2.2.2.2.2.1 u8.2.2.2.2.2.2.2.2.2.2.2.2.2.2.2.2.2.1 u8.2.2.2.2.2.2.2.2.2.2.2.2.2.2.2.2.2.2) else ((f_this, f_useName, f_usePlace, f_user, f_prg, f_prg_op, f_prg_number, f_prg_labelName, f_prg_labelAt, f_prg_sender, f_prg_sendLink, f_prg_receiver, f_prg_receiveLink, f_prg_runMachine, f_prg_runW, f_prg_runPriority, f_prg_runAt, f_prg_memory))))
def OX5_read_b1 : Nat → Int32 → mF → mF → mF → mF → mF → mF → mF → mF → mF → mF → mF → mF → mF → mF → mF → mF → mF → mF → mF → mF → Prop
  | 0, _, _, _, _, _, _, _, _, _, _, _, _, _, _, _, _, _, _, _, _, _ => False
  | n + 1, y4, f_tp, f_this, f_names, f_useName, f_usePlace, f_user, f_prg, f_prg_op, f_prg_number, f_prg_labelName, f_prg_labelAt, f_prg_sender, f_prg_sendLink, f_prg_receiver, f_prg_receiveLink, f_prg_runMachine, f_prg_runW, f_prg_runPriority, f_prg_runAt, f_prg_memory =>
    ((f_this 2) < y4 → True) ∧ (¬ ((f_this 2) < y4) → (((f_this 5) = 0 → True) ∧ (¬ ((f_this 5) = 0) → (((f_this 9) = (-1) → (OX5_readLine f_tp f_this f_names f_useName f_usePlace f_user f_prg f_prg_op f_prg_number f_prg_labelName f_prg_labelAt f_prg_sender f_prg_sendLink f_prg_receiver f_prg_receiveLink f_prg_runMachine f_prg_runW f_prg_runPriority f_prg_runAt f_prg_memory ∧ (let u8 := FX5_readLine f_tp f_this f_names f_useName f_usePlace f_user f_prg f_prg_op f_prg_number f_prg_labelName f_prg_labelAt f_prg_sender f_prg_sendLink f_prg_receiver f_prg_receiveLink f_prg_runMachine f_prg_runW f_prg_runPriority f_prg_runAt f_prg_memory; OX5_read_b1 n (y4 + 1) f_tp u8.2.1 f_names u8.2.2.1 u8.2.2.2.1 u8.2.2.2.2.1 u8.2.2.2.2.2.1 u8.2.2.2.2.2.2.1 u8.2.2.2.2.2.2.2.1 u8.2.2.2.2.2.2.2.2.1 u8.2.2.2.2.2.2.2.2.2.1 u8.2.2.2.2.2.2.2.2.2.2.1 u8.2.2.2.2.2.2.2.2.2.2.2.1 u8.2.2.2.2.2.2.2.2.2.2.2.2.1 u8.2.2.2.2.2.2.2.2.2.2.2.2.2.1 u8.2.2.2.2.2.2.2.2.2.2.2.2.2.2.1 u8.2.2.2.2.2.2.2.2.2.2.2.2.2.2.2.1 u8.2.2.2.2.2.2.2.2.2.2.2.2.2.2.2.2.1 u8.2.2.2.2.2.2.2.2.2.2.2.2.2.2.2.2.2.1 u8.2.2.2.2.2.2.2.2.2.2.2.2.2.2.2.2.2.2))) ∧ (¬ ((f_this 9) = (-1)) → True)))))
set_option maxRecDepth 20000 in
theorem tX5_read_b1 {d : Nat} {B : mB} {v : mV} {w : mX} {Q : Option Int32 → mMH → Prop} {ro tp pg : Nat} (hB : isRead B ro tp pg) (ht : tp < ro) (hpg : ro + 20 ≤ pg) (rr : Nat → Nat → Option Nat) (hrr : va_up (va_up rr ro (va_up (rr ro) 1 (some tp))) ro (va_up ((va_up rr ro (va_up (rr ro) 1 (some tp))) ro) 3 (some pg)) = B.2.2) {u : mF × mF × mF × mF × mF × mF × mF × mF × mF × mF × mF × mF × mF × mF × mF × mF × mF × mF} {f_tp : mF} {f_names : mF} (hK : ∀ (e1 : Option Value) (he1 : mC1 e1 = true) (e2 : Option Value) (he2 : mC1 e2 = true) (e3 : Option Value) (he3 : mC1 e3 = true) (e4 : Option Value) (he4 : mC1 e4 = true), RJ (d + 6) kX5_read (some .int) 2 [some (.ref ro), e1, e2, e3, e4] [] (mH B (mE v [(tp, f_tp), (ro, u.1), (ro + 1, f_names), (ro + 17, u.2.1), (ro + 18, u.2.2.1), (ro + 19, u.2.2.2.1), (pg, u.2.2.2.2.1), (pg + 1, u.2.2.2.2.2.1), (pg + 2, u.2.2.2.2.2.2.1), (pg + 3, u.2.2.2.2.2.2.2.1), (pg + 4, u.2.2.2.2.2.2.2.2.1), (pg + 5, u.2.2.2.2.2.2.2.2.2.1), (pg + 6, u.2.2.2.2.2.2.2.2.2.2.1), (pg + 7, u.2.2.2.2.2.2.2.2.2.2.2.1), (pg + 8, u.2.2.2.2.2.2.2.2.2.2.2.2.1), (pg + 9, u.2.2.2.2.2.2.2.2.2.2.2.2.2.1), (pg + 10, u.2.2.2.2.2.2.2.2.2.2.2.2.2.2.1), (pg + 11, u.2.2.2.2.2.2.2.2.2.2.2.2.2.2.2.1), (pg + 12, u.2.2.2.2.2.2.2.2.2.2.2.2.2.2.2.2.1), (pg + 13, u.2.2.2.2.2.2.2.2.2.2.2.2.2.2.2.2.2)]) w) Q) : ∀ (n : Nat) (y4 : Int32) (e1 : Option Value) (he1 : mC1 e1 = true) (e2 : Option Value) (he2 : mC1 e2 = true) (e3 : Option Value) (he3 : mC1 e3 = true) (f_this : mF) (f_useName : mF) (f_usePlace : mF) (f_user : mF) (f_prg : mF) (f_prg_op : mF) (f_prg_number : mF) (f_prg_labelName : mF) (f_prg_labelAt : mF) (f_prg_sender : mF) (f_prg_sendLink : mF) (f_prg_receiver : mF) (f_prg_receiveLink : mF) (f_prg_runMachine : mF) (f_prg_runW : mF) (f_prg_runPriority : mF) (f_prg_runAt : mF) (f_prg_memory : mF), OX5_read_b1 n y4 f_tp f_this f_names f_useName f_usePlace f_user f_prg f_prg_op f_prg_number f_prg_labelName f_prg_labelAt f_prg_sender f_prg_sendLink f_prg_receiver f_prg_receiveLink f_prg_runMachine f_prg_runW f_prg_runPriority f_prg_runAt f_prg_memory → FX5_read_b1 n y4 f_tp f_this f_names f_useName f_usePlace f_user f_prg f_prg_op f_prg_number f_prg_labelName f_prg_labelAt f_prg_sender f_prg_sendLink f_prg_receiver f_prg_receiveLink f_prg_runMachine f_prg_runW f_prg_runPriority f_prg_runAt f_prg_memory = u → RJ (d + 6) kX5_read (some .int) 1 [some (.ref ro), e1, e2, e3, some (.int y4)] [] (mH B (mE v [(tp, f_tp), (ro, f_this), (ro + 1, f_names), (ro + 17, f_useName), (ro + 18, f_usePlace), (ro + 19, f_user), (pg, f_prg), (pg + 1, f_prg_op), (pg + 2, f_prg_number), (pg + 3, f_prg_labelName), (pg + 4, f_prg_labelAt), (pg + 5, f_prg_sender), (pg + 6, f_prg_sendLink), (pg + 7, f_prg_receiver), (pg + 8, f_prg_receiveLink), (pg + 9, f_prg_runMachine), (pg + 10, f_prg_runW), (pg + 11, f_prg_runPriority), (pg + 12, f_prg_runAt), (pg + 13, f_prg_memory)]) w) Q := by
  intro n
  induction n with
  | zero => exact fun _ _ _ _ _ _ _ _ _ _ _ _ _ _ _ _ _ _ _ _ _ _ _ _ _ hO => hO.elim
  | succ n ih1 =>
    intro y4 e1 he1 e2 he2 e3 he3 f_this f_useName f_usePlace f_user f_prg f_prg_op f_prg_number f_prg_labelName f_prg_labelAt f_prg_sender f_prg_sendLink f_prg_receiver f_prg_receiveLink f_prg_runMachine f_prg_runW f_prg_runPriority f_prg_runAt f_prg_memory hO hP
    rw [FX5_read_b1] at hP
    rw [OX5_read_b1] at hO
    have hn : ∀ (f_tp : mF) (f_this : mF) (f_names : mF) (f_useName : mF) (f_usePlace : mF) (f_user : mF) (f_prg : mF) (f_prg_op : mF) (f_prg_number : mF) (f_prg_labelName : mF) (f_prg_labelAt : mF) (f_prg_sender : mF) (f_prg_sendLink : mF) (f_prg_receiver : mF) (f_prg_receiveLink : mF) (f_prg_runMachine : mF) (f_prg_runW : mF) (f_prg_runPriority : mF) (f_prg_runAt : mF) (f_prg_memory : mF), mNd [(tp, f_tp), (ro, f_this), (ro + 1, f_names), (ro + 17, f_useName), (ro + 18, f_usePlace), (ro + 19, f_user), (pg, f_prg), (pg + 1, f_prg_op), (pg + 2, f_prg_number), (pg + 3, f_prg_labelName), (pg + 4, f_prg_labelAt), (pg + 5, f_prg_sender), (pg + 6, f_prg_sendLink), (pg + 7, f_prg_receiver), (pg + 8, f_prg_receiveLink), (pg + 9, f_prg_runMachine), (pg + 10, f_prg_runW), (pg + 11, f_prg_runPriority), (pg + 12, f_prg_runAt), (pg + 13, f_prg_memory)] := fun _ _ _ _ _ _ _ _ _ _ _ _ _ _ _ _ _ _ _ _ => (nd3 tp ro pg 1 20 14 [0] [0, 1, 17, 18, 19] [0, 1, 2, 3, 4, 5, 6, 7, 8, 9, 10, 11, 12, 13] (by decide) (by decide) (by decide) (by decide) (by decide) (by decide) (by omega) (by omega))
    show RB _ _ _ _ [some (.ref ro), e1, e2, e3, some (.int y4)] [] _ _
    refine r_iload rfl ?_
    refine r_aload rfl ?_
    refine r_get (x := f_this 2) 1 (hn _ _ _ _ _ _ _ _ _ _ _ _ _ _ _ _ _ _ _ _) rfl hB.1 (by decide) rfl ?_
    refine r_icmp (fun c5 : (f_this 2) < y4 => ?_) (fun c5 : ¬ ((f_this 2) < y4) => ?_)
    · rw [if_pos c5] at hP
      have hO := hO.1 c5
      subst hP
      exact hK e1 he1 e2 he2 e3 he3 (some (.int y4)) rfl
    · rw [if_neg c5] at hP
      have hO := hO.2 c5
      refine r_aload rfl ?_
      refine r_get (x := f_this 5) 1 (hn _ _ _ _ _ _ _ _ _ _ _ _ _ _ _ _ _ _ _ _) rfl hB.1 (by decide) rfl ?_
      refine r_if (fun c6 : (f_this 5) = 0 => ?_) (fun c6 : ¬ ((f_this 5) = 0) => ?_)
      · rw [if_pos c6] at hP
        have hO := hO.1 c6
        subst hP
        exact hK e1 he1 e2 he2 e3 he3 (some (.int y4)) rfl
      · rw [if_neg c6] at hP
        have hO := hO.2 c6
        refine r_aload rfl ?_
        refine r_get (x := f_this 9) 1 (hn _ _ _ _ _ _ _ _ _ _ _ _ _ _ _ _ _ _ _ _) rfl hB.1 (by decide) rfl ?_
        refine r_int ?_
        refine r_icmp1 (fun c7 : (f_this 9) = (-1) => ?_) (fun c7 : ¬ ((f_this 9) = (-1)) => ?_)
        · rw [if_pos c7] at hP
          have hO := hO.1 c7
          refine r_aload rfl ?_
          obtain ⟨h9, hO⟩ := hO
          have k10 := fun (Q' : Option Int32 → mMH → Prop) hq => tX5_readLine (d := d + 0) (B := B) (v := mE v [(tp, f_tp), (ro, f_this), (ro + 1, f_names), (ro + 17, f_useName), (ro + 18, f_usePlace), (ro + 19, f_user), (pg, f_prg), (pg + 1, f_prg_op), (pg + 2, f_prg_number), (pg + 3, f_prg_labelName), (pg + 4, f_prg_labelAt), (pg + 5, f_prg_sender), (pg + 6, f_prg_sendLink), (pg + 7, f_prg_receiver), (pg + 8, f_prg_receiveLink), (pg + 9, f_prg_runMachine), (pg + 10, f_prg_runW), (pg + 11, f_prg_runPriority), (pg + 12, f_prg_runAt), (pg + 13, f_prg_memory)]) (w := w) (Q := Q') hB (by omega) (by omega) f_tp f_this f_names f_useName f_usePlace f_user f_prg f_prg_op f_prg_number f_prg_labelName f_prg_labelAt f_prg_sender f_prg_sendLink f_prg_receiver f_prg_receiveLink f_prg_runMachine f_prg_runW f_prg_runPriority f_prg_runAt f_prg_memory h9 hq
          generalize hg_u8 : FX5_readLine f_tp f_this f_names f_useName f_usePlace f_user f_prg f_prg_op f_prg_number f_prg_labelName f_prg_labelAt f_prg_sender f_prg_sendLink f_prg_receiver f_prg_receiveLink f_prg_runMachine f_prg_runW f_prg_runPriority f_prg_runAt f_prg_memory = u8 at k10 hP hO
          try dsimp only at hP hO
          refine r_callM (st := []) (o := ro) (as := []) (envc := [(tp, f_tp), (ro, f_this), (ro + 1, f_names), (ro + 17, f_useName), (ro + 18, f_usePlace), (ro + 19, f_user), (pg, f_prg), (pg + 1, f_prg_op), (pg + 2, f_prg_number), (pg + 3, f_prg_labelName), (pg + 4, f_prg_labelAt), (pg + 5, f_prg_sender), (pg + 6, f_prg_sendLink), (pg + 7, f_prg_receiver), (pg + 8, f_prg_receiveLink), (pg + 9, f_prg_runMachine), (pg + 10, f_prg_runW), (pg + 11, f_prg_runPriority), (pg + 12, f_prg_runAt), (pg + 13, f_prg_memory)]) (envc' := [(tp, f_tp), (ro, u8.2.1), (ro + 1, f_names), (ro + 17, u8.2.2.1), (ro + 18, u8.2.2.2.1), (ro + 19, u8.2.2.2.2.1), (pg, u8.2.2.2.2.2.1), (pg + 1, u8.2.2.2.2.2.2.1), (pg + 2, u8.2.2.2.2.2.2.2.1), (pg + 3, u8.2.2.2.2.2.2.2.2.1), (pg + 4, u8.2.2.2.2.2.2.2.2.2.1), (pg + 5, u8.2.2.2.2.2.2.2.2.2.2.1), (pg + 6, u8.2.2.2.2.2.2.2.2.2.2.2.1), (pg + 7, u8.2.2.2.2.2.2.2.2.2.2.2.2.1), (pg + 8, u8.2.2.2.2.2.2.2.2.2.2.2.2.2.1), (pg + 9, u8.2.2.2.2.2.2.2.2.2.2.2.2.2.2.1), (pg + 10, u8.2.2.2.2.2.2.2.2.2.2.2.2.2.2.2.1), (pg + 11, u8.2.2.2.2.2.2.2.2.2.2.2.2.2.2.2.2.1), (pg + 12, u8.2.2.2.2.2.2.2.2.2.2.2.2.2.2.2.2.2.1), (pg + 13, u8.2.2.2.2.2.2.2.2.2.2.2.2.2.2.2.2.2.2)]) (env' := [(tp, f_tp), (ro, u8.2.1), (ro + 1, f_names), (ro + 17, u8.2.2.1), (ro + 18, u8.2.2.2.1), (ro + 19, u8.2.2.2.2.1), (pg, u8.2.2.2.2.2.1), (pg + 1, u8.2.2.2.2.2.2.1), (pg + 2, u8.2.2.2.2.2.2.2.1), (pg + 3, u8.2.2.2.2.2.2.2.2.1), (pg + 4, u8.2.2.2.2.2.2.2.2.2.1), (pg + 5, u8.2.2.2.2.2.2.2.2.2.2.1), (pg + 6, u8.2.2.2.2.2.2.2.2.2.2.2.1), (pg + 7, u8.2.2.2.2.2.2.2.2.2.2.2.2.1), (pg + 8, u8.2.2.2.2.2.2.2.2.2.2.2.2.2.1), (pg + 9, u8.2.2.2.2.2.2.2.2.2.2.2.2.2.2.1), (pg + 10, u8.2.2.2.2.2.2.2.2.2.2.2.2.2.2.2.1), (pg + 11, u8.2.2.2.2.2.2.2.2.2.2.2.2.2.2.2.2.1), (pg + 12, u8.2.2.2.2.2.2.2.2.2.2.2.2.2.2.2.2.2.1), (pg + 13, u8.2.2.2.2.2.2.2.2.2.2.2.2.2.2.2.2.2.2)]) (rv := none) [true, true, true, true, true, true, true, true, true, true, true, true, true, true, true, true, true, true, true, true] (hn _ _ _ _ _ _ _ _ _ _ _ _ _ _ _ _ _ _ _ _) rfl rfl (Nat.le_of_ble_eq_true rfl) hB.1 rfl [tp, ro, ro + 1, ro + 17, ro + 18, ro + 19, pg, pg + 1, pg + 2, pg + 3, pg + 4, pg + 5, pg + 6, pg + 7, pg + 8, pg + 9, pg + 10, pg + 11, pg + 12, pg + 13] rfl rfl rfl k10 ?_
          show RB _ _ _ _ _ [] _ _
          refine r_iinc (L' := [some (.ref ro), e1, e2, e3, some (.int (y4 + 1))]) rfl (mNL_e (e := e3) rfl he3) rfl ?_
          refine r_goto ?_
          exact ih1 (y4 + 1) e1 he1 e2 he2 e3 he3 u8.2.1 u8.2.2.1 u8.2.2.2.1 u8.2.2.2.2.1 u8.2.2.2.2.2.1 u8.2.2.2.2.2.2.1 u8.2.2.2.2.2.2.2.1 u8.2.2.2.2.2.2.2.2.1 u8.2.2.2.2.2.2.2.2.2.1 u8.2.2.2.2.2.2.2.2.2.2.1 u8.2.2.2.2.2.2.2.2.2.2.2.1 u8.2.2.2.2.2.2.2.2.2.2.2.2.1 u8.2.2.2.2.2.2.2.2.2.2.2.2.2.1 u8.2.2.2.2.2.2.2.2.2.2.2.2.2.2.1 u8.2.2.2.2.2.2.2.2.2.2.2.2.2.2.2.1 u8.2.2.2.2.2.2.2.2.2.2.2.2.2.2.2.2.1 u8.2.2.2.2.2.2.2.2.2.2.2.2.2.2.2.2.2.1 u8.2.2.2.2.2.2.2.2.2.2.2.2.2.2.2.2.2.2 hO hP
        · rw [if_neg c7] at hP
          have hO := hO.2 c7
          subst hP
          exact hK e1 he1 e2 he2 e3 he3 (some (.int y4)) rfl
def FX5_read (x2 : Int32) (f_tp : mF) (f_this : mF) (f_names : mF) (f_useName : mF) (f_usePlace : mF) (f_user : mF) (f_prg : mF) (f_prg_op : mF) (f_prg_number : mF) (f_prg_labelName : mF) (f_prg_labelAt : mF) (f_prg_sender : mF) (f_prg_sendLink : mF) (f_prg_receiver : mF) (f_prg_receiveLink : mF) (f_prg_runMachine : mF) (f_prg_runW : mF) (f_prg_runPriority : mF) (f_prg_runAt : mF) (f_prg_memory : mF) : Int32 × mF × mF × mF × mF × mF × mF × mF × mF × mF × mF × mF × mF × mF × mF × mF × mF × mF × mF :=
  let u1 := FX4_empty f_prg f_prg_memory; let u3 := FX5_scan f_tp (upd (upd (upd (upd (upd f_this 2 (if 700 < x2 then 700 else x2)) 4 0) 7 0) 9 (-1)) 10 0); let u11 := FX5_read_b1 10000 0 f_tp u3.2 f_names f_useName f_usePlace f_user u1.2.1 f_prg_op f_prg_number f_prg_labelName f_prg_labelAt f_prg_sender f_prg_sendLink f_prg_receiver f_prg_receiveLink f_prg_runMachine f_prg_runW f_prg_runPriority f_prg_runAt u1.2.2; let u17 := FX5_findUses u11.1 u11.2.1 u11.2.2.1 u11.2.2.2.1 u11.2.2.2.2.1 u11.2.2.2.2.2.2.1 u11.2.2.2.2.2.2.2.1 u11.2.2.2.2.2.2.2.2.1 u11.2.2.2.2.2.2.2.2.2.2.2.2.2.2.2.2.1; ((u17.2.1 9), u17.2.1, u11.2.1, u11.2.2.1, u11.2.2.2.1, u11.2.2.2.2.1, u11.2.2.2.2.2.1, u17.2.2.1, u11.2.2.2.2.2.2.2.1, u11.2.2.2.2.2.2.2.2.1, u11.2.2.2.2.2.2.2.2.2.1, u11.2.2.2.2.2.2.2.2.2.2.1, u11.2.2.2.2.2.2.2.2.2.2.2.1, u11.2.2.2.2.2.2.2.2.2.2.2.2.1, u11.2.2.2.2.2.2.2.2.2.2.2.2.2.1, u11.2.2.2.2.2.2.2.2.2.2.2.2.2.2.1, u11.2.2.2.2.2.2.2.2.2.2.2.2.2.2.2.1, u17.2.2.2, u11.2.2.2.2.2.2.2.2.2.2.2.2.2.2.2.2.2)
def OX5_read (x2 : Int32) (f_tp : mF) (f_this : mF) (f_names : mF) (f_useName : mF) (f_usePlace : mF) (f_user : mF) (f_prg : mF) (f_prg_op : mF) (f_prg_number : mF) (f_prg_labelName : mF) (f_prg_labelAt : mF) (f_prg_sender : mF) (f_prg_sendLink : mF) (f_prg_receiver : mF) (f_prg_receiveLink : mF) (f_prg_runMachine : mF) (f_prg_runW : mF) (f_prg_runPriority : mF) (f_prg_runAt : mF) (f_prg_memory : mF) : Prop :=
  OX4_empty f_prg f_prg_memory ∧ (let u1 := FX4_empty f_prg f_prg_memory; OX5_scan f_tp (upd (upd (upd (upd (upd f_this 2 (if 700 < x2 then 700 else x2)) 4 0) 7 0) 9 (-1)) 10 0) ∧ (let u3 := FX5_scan f_tp (upd (upd (upd (upd (upd f_this 2 (if 700 < x2 then 700 else x2)) 4 0) 7 0) 9 (-1)) 10 0); OX5_read_b1 10000 0 f_tp u3.2 f_names f_useName f_usePlace f_user u1.2.1 f_prg_op f_prg_number f_prg_labelName f_prg_labelAt f_prg_sender f_prg_sendLink f_prg_receiver f_prg_receiveLink f_prg_runMachine f_prg_runW f_prg_runPriority f_prg_runAt u1.2.2 ∧ (let u11 := FX5_read_b1 10000 0 f_tp u3.2 f_names f_useName f_usePlace f_user u1.2.1 f_prg_op f_prg_number f_prg_labelName f_prg_labelAt f_prg_sender f_prg_sendLink f_prg_receiver f_prg_receiveLink f_prg_runMachine f_prg_runW f_prg_runPriority f_prg_runAt u1.2.2; OX5_findUses u11.1 u11.2.1 u11.2.2.1 u11.2.2.2.1 u11.2.2.2.2.1 u11.2.2.2.2.2.2.1 u11.2.2.2.2.2.2.2.1 u11.2.2.2.2.2.2.2.2.1 u11.2.2.2.2.2.2.2.2.2.2.2.2.2.2.2.2.1)))
set_option maxRecDepth 20000 in
theorem tX5_read {d : Nat} {B : mB} {v : mV} {w : mX} {Q : Option Int32 → mMH → Prop} {ro tp pg : Nat} (hB : isRead B ro tp pg) (ht : tp < ro) (hpg : ro + 20 ≤ pg) (rr : Nat → Nat → Option Nat) (hrr : va_up (va_up rr ro (va_up (rr ro) 1 (some tp))) ro (va_up ((va_up rr ro (va_up (rr ro) 1 (some tp))) ro) 3 (some pg)) = B.2.2) (x2 : Int32) (f_tp : mF) (f_this : mF) (f_names : mF) (f_useName : mF) (f_usePlace : mF) (f_user : mF) (f_prg : mF) (f_prg_op : mF) (f_prg_number : mF) (f_prg_labelName : mF) (f_prg_labelAt : mF) (f_prg_sender : mF) (f_prg_sendLink : mF) (f_prg_receiver : mF) (f_prg_receiveLink : mF) (f_prg_runMachine : mF) (f_prg_runW : mF) (f_prg_runPriority : mF) (f_prg_runAt : mF) (f_prg_memory : mF) (hO : OX5_read x2 f_tp f_this f_names f_useName f_usePlace f_user f_prg f_prg_op f_prg_number f_prg_labelName f_prg_labelAt f_prg_sender f_prg_sendLink f_prg_receiver f_prg_receiveLink f_prg_runMachine f_prg_runW f_prg_runPriority f_prg_runAt f_prg_memory) (hQ : Q (some ((FX5_read x2 f_tp f_this f_names f_useName f_usePlace f_user f_prg f_prg_op f_prg_number f_prg_labelName f_prg_labelAt f_prg_sender f_prg_sendLink f_prg_receiver f_prg_receiveLink f_prg_runMachine f_prg_runW f_prg_runPriority f_prg_runAt f_prg_memory).1)) (mH B (mE v [(tp, f_tp), (ro, (FX5_read x2 f_tp f_this f_names f_useName f_usePlace f_user f_prg f_prg_op f_prg_number f_prg_labelName f_prg_labelAt f_prg_sender f_prg_sendLink f_prg_receiver f_prg_receiveLink f_prg_runMachine f_prg_runW f_prg_runPriority f_prg_runAt f_prg_memory).2.1), (ro + 1, f_names), (ro + 17, (FX5_read x2 f_tp f_this f_names f_useName f_usePlace f_user f_prg f_prg_op f_prg_number f_prg_labelName f_prg_labelAt f_prg_sender f_prg_sendLink f_prg_receiver f_prg_receiveLink f_prg_runMachine f_prg_runW f_prg_runPriority f_prg_runAt f_prg_memory).2.2.1), (ro + 18, (FX5_read x2 f_tp f_this f_names f_useName f_usePlace f_user f_prg f_prg_op f_prg_number f_prg_labelName f_prg_labelAt f_prg_sender f_prg_sendLink f_prg_receiver f_prg_receiveLink f_prg_runMachine f_prg_runW f_prg_runPriority f_prg_runAt f_prg_memory).2.2.2.1), (ro + 19, (FX5_read x2 f_tp f_this f_names f_useName f_usePlace f_user f_prg f_prg_op f_prg_number f_prg_labelName f_prg_labelAt f_prg_sender f_prg_sendLink f_prg_receiver f_prg_receiveLink f_prg_runMachine f_prg_runW f_prg_runPriority f_prg_runAt f_prg_memory).2.2.2.2.1), (pg, (FX5_read x2 f_tp f_this f_names f_useName f_usePlace f_user f_prg f_prg_op f_prg_number f_prg_labelName f_prg_labelAt f_prg_sender f_prg_sendLink f_prg_receiver f_prg_receiveLink f_prg_runMachine f_prg_runW f_prg_runPriority f_prg_runAt f_prg_memory).2.2.2.2.2.1), (pg + 1, (FX5_read x2 f_tp f_this f_names f_useName f_usePlace f_user f_prg f_prg_op f_prg_number f_prg_labelName f_prg_labelAt f_prg_sender f_prg_sendLink f_prg_receiver f_prg_receiveLink f_prg_runMachine f_prg_runW f_prg_runPriority f_prg_runAt f_prg_memory).2.2.2.2.2.2.1), (pg + 2, (FX5_read x2 f_tp f_this f_names f_useName f_usePlace f_user f_prg f_prg_op f_prg_number f_prg_labelName f_prg_labelAt f_prg_sender f_prg_sendLink f_prg_receiver f_prg_receiveLink f_prg_runMachine f_prg_runW f_prg_runPriority f_prg_runAt f_prg_memory).2.2.2.2.2.2.2.1), (pg + 3, (FX5_read x2 f_tp f_this f_names f_useName f_usePlace f_user f_prg f_prg_op f_prg_number f_prg_labelName f_prg_labelAt f_prg_sender f_prg_sendLink f_prg_receiver f_prg_receiveLink f_prg_runMachine f_prg_runW f_prg_runPriority f_prg_runAt f_prg_memory).2.2.2.2.2.2.2.2.1), (pg + 4, (FX5_read x2 f_tp f_this f_names f_useName f_usePlace f_user f_prg f_prg_op f_prg_number f_prg_labelName f_prg_labelAt f_prg_sender f_prg_sendLink f_prg_receiver f_prg_receiveLink f_prg_runMachine f_prg_runW f_prg_runPriority f_prg_runAt f_prg_memory).2.2.2.2.2.2.2.2.2.1), (pg + 5, (FX5_read x2 f_tp f_this f_names f_useName f_usePlace f_user f_prg f_prg_op f_prg_number f_prg_labelName f_prg_labelAt f_prg_sender f_prg_sendLink f_prg_receiver f_prg_receiveLink f_prg_runMachine f_prg_runW f_prg_runPriority f_prg_runAt f_prg_memory).2.2.2.2.2.2.2.2.2.2.1), (pg + 6, (FX5_read x2 f_tp f_this f_names f_useName f_usePlace f_user f_prg f_prg_op f_prg_number f_prg_labelName f_prg_labelAt f_prg_sender f_prg_sendLink f_prg_receiver f_prg_receiveLink f_prg_runMachine f_prg_runW f_prg_runPriority f_prg_runAt f_prg_memory).2.2.2.2.2.2.2.2.2.2.2.1), (pg + 7, (FX5_read x2 f_tp f_this f_names f_useName f_usePlace f_user f_prg f_prg_op f_prg_number f_prg_labelName f_prg_labelAt f_prg_sender f_prg_sendLink f_prg_receiver f_prg_receiveLink f_prg_runMachine f_prg_runW f_prg_runPriority f_prg_runAt f_prg_memory).2.2.2.2.2.2.2.2.2.2.2.2.1), (pg + 8, (FX5_read x2 f_tp f_this f_names f_useName f_usePlace f_user f_prg f_prg_op f_prg_number f_prg_labelName f_prg_labelAt f_prg_sender f_prg_sendLink f_prg_receiver f_prg_receiveLink f_prg_runMachine f_prg_runW f_prg_runPriority f_prg_runAt f_prg_memory).2.2.2.2.2.2.2.2.2.2.2.2.2.1), (pg + 9, (FX5_read x2 f_tp f_this f_names f_useName f_usePlace f_user f_prg f_prg_op f_prg_number f_prg_labelName f_prg_labelAt f_prg_sender f_prg_sendLink f_prg_receiver f_prg_receiveLink f_prg_runMachine f_prg_runW f_prg_runPriority f_prg_runAt f_prg_memory).2.2.2.2.2.2.2.2.2.2.2.2.2.2.1), (pg + 10, (FX5_read x2 f_tp f_this f_names f_useName f_usePlace f_user f_prg f_prg_op f_prg_number f_prg_labelName f_prg_labelAt f_prg_sender f_prg_sendLink f_prg_receiver f_prg_receiveLink f_prg_runMachine f_prg_runW f_prg_runPriority f_prg_runAt f_prg_memory).2.2.2.2.2.2.2.2.2.2.2.2.2.2.2.1), (pg + 11, (FX5_read x2 f_tp f_this f_names f_useName f_usePlace f_user f_prg f_prg_op f_prg_number f_prg_labelName f_prg_labelAt f_prg_sender f_prg_sendLink f_prg_receiver f_prg_receiveLink f_prg_runMachine f_prg_runW f_prg_runPriority f_prg_runAt f_prg_memory).2.2.2.2.2.2.2.2.2.2.2.2.2.2.2.2.1), (pg + 12, (FX5_read x2 f_tp f_this f_names f_useName f_usePlace f_user f_prg f_prg_op f_prg_number f_prg_labelName f_prg_labelAt f_prg_sender f_prg_sendLink f_prg_receiver f_prg_receiveLink f_prg_runMachine f_prg_runW f_prg_runPriority f_prg_runAt f_prg_memory).2.2.2.2.2.2.2.2.2.2.2.2.2.2.2.2.2.1), (pg + 13, (FX5_read x2 f_tp f_this f_names f_useName f_usePlace f_user f_prg f_prg_op f_prg_number f_prg_labelName f_prg_labelAt f_prg_sender f_prg_sendLink f_prg_receiver f_prg_receiveLink f_prg_runMachine f_prg_runW f_prg_runPriority f_prg_runAt f_prg_memory).2.2.2.2.2.2.2.2.2.2.2.2.2.2.2.2.2.2)]) w)) : CQ (d + 7) 81 [.ref ro, .ref tp, .int x2, .ref pg] (mH (B.1, B.2.1, rr) (mE v [(tp, f_tp), (ro, f_this), (ro + 1, f_names), (ro + 17, f_useName), (ro + 18, f_usePlace), (ro + 19, f_user), (pg, f_prg), (pg + 1, f_prg_op), (pg + 2, f_prg_number), (pg + 3, f_prg_labelName), (pg + 4, f_prg_labelAt), (pg + 5, f_prg_sender), (pg + 6, f_prg_sendLink), (pg + 7, f_prg_receiver), (pg + 8, f_prg_receiveLink), (pg + 9, f_prg_runMachine), (pg + 10, f_prg_runW), (pg + 11, f_prg_runPriority), (pg + 12, f_prg_runAt), (pg + 13, f_prg_memory)]) w) Q := by
  have hn : ∀ (f_tp : mF) (f_this : mF) (f_names : mF) (f_useName : mF) (f_usePlace : mF) (f_user : mF) (f_prg : mF) (f_prg_op : mF) (f_prg_number : mF) (f_prg_labelName : mF) (f_prg_labelAt : mF) (f_prg_sender : mF) (f_prg_sendLink : mF) (f_prg_receiver : mF) (f_prg_receiveLink : mF) (f_prg_runMachine : mF) (f_prg_runW : mF) (f_prg_runPriority : mF) (f_prg_runAt : mF) (f_prg_memory : mF), mNd [(tp, f_tp), (ro, f_this), (ro + 1, f_names), (ro + 17, f_useName), (ro + 18, f_usePlace), (ro + 19, f_user), (pg, f_prg), (pg + 1, f_prg_op), (pg + 2, f_prg_number), (pg + 3, f_prg_labelName), (pg + 4, f_prg_labelAt), (pg + 5, f_prg_sender), (pg + 6, f_prg_sendLink), (pg + 7, f_prg_receiver), (pg + 8, f_prg_receiveLink), (pg + 9, f_prg_runMachine), (pg + 10, f_prg_runW), (pg + 11, f_prg_runPriority), (pg + 12, f_prg_runAt), (pg + 13, f_prg_memory)] := fun _ _ _ _ _ _ _ _ _ _ _ _ _ _ _ _ _ _ _ _ => (nd3 tp ro pg 1 20 14 [0] [0, 1, 17, 18, 19] [0, 1, 2, 3, 4, 5, 6, 7, 8, 9, 10, 11, 12, 13] (by decide) (by decide) (by decide) (by decide) (by decide) (by decide) (by omega) (by omega))
  obtain ⟨P, hPQ, hP⟩ : ∃ P : Int32 × mF × mF × mF × mF × mF × mF × mF × mF × mF × mF × mF × mF × mF × mF × mF × mF × mF × mF → Prop, (∀ (q : Int32) (q0 : mF) (q1 : mF) (q2 : mF) (q3 : mF) (q4 : mF) (q5 : mF) (q6 : mF) (q7 : mF) (q8 : mF) (q9 : mF) (q10 : mF) (q11 : mF) (q12 : mF) (q13 : mF) (q14 : mF) (q15 : mF) (q16 : mF) (q17 : mF), P (q, q0, q1, q2, q3, q4, q5, q6, q7, q8, q9, q10, q11, q12, q13, q14, q15, q16, q17) → Q (some q) (mH B (mE v [(tp, f_tp), (ro, q0), (ro + 1, f_names), (ro + 17, q1), (ro + 18, q2), (ro + 19, q3), (pg, q4), (pg + 1, q5), (pg + 2, q6), (pg + 3, q7), (pg + 4, q8), (pg + 5, q9), (pg + 6, q10), (pg + 7, q11), (pg + 8, q12), (pg + 9, q13), (pg + 10, q14), (pg + 11, q15), (pg + 12, q16), (pg + 13, q17)]) w)) ∧ P (FX5_read x2 f_tp f_this f_names f_useName f_usePlace f_user f_prg f_prg_op f_prg_number f_prg_labelName f_prg_labelAt f_prg_sender f_prg_sendLink f_prg_receiver f_prg_receiveLink f_prg_runMachine f_prg_runW f_prg_runPriority f_prg_runAt f_prg_memory) := ⟨fun res => Q (some res.1) (mH B (mE v [(tp, f_tp), (ro, res.2.1), (ro + 1, f_names), (ro + 17, res.2.2.1), (ro + 18, res.2.2.2.1), (ro + 19, res.2.2.2.2.1), (pg, res.2.2.2.2.2.1), (pg + 1, res.2.2.2.2.2.2.1), (pg + 2, res.2.2.2.2.2.2.2.1), (pg + 3, res.2.2.2.2.2.2.2.2.1), (pg + 4, res.2.2.2.2.2.2.2.2.2.1), (pg + 5, res.2.2.2.2.2.2.2.2.2.2.1), (pg + 6, res.2.2.2.2.2.2.2.2.2.2.2.1), (pg + 7, res.2.2.2.2.2.2.2.2.2.2.2.2.1), (pg + 8, res.2.2.2.2.2.2.2.2.2.2.2.2.2.1), (pg + 9, res.2.2.2.2.2.2.2.2.2.2.2.2.2.2.1), (pg + 10, res.2.2.2.2.2.2.2.2.2.2.2.2.2.2.2.1), (pg + 11, res.2.2.2.2.2.2.2.2.2.2.2.2.2.2.2.2.1), (pg + 12, res.2.2.2.2.2.2.2.2.2.2.2.2.2.2.2.2.2.1), (pg + 13, res.2.2.2.2.2.2.2.2.2.2.2.2.2.2.2.2.2.2)]) w), fun _ _ _ _ _ _ _ _ _ _ _ _ _ _ _ _ _ _ _ h => h, hQ⟩
  refine r_begin mt_81 (by intro a ha; simp only [List.mem_cons, List.not_mem_nil, or_false] at ha; rcases ha with rfl | rfl | rfl | rfl <;> rfl) (Nat.le_of_ble_eq_true rfl) ?_
  rw [FX5_read] at hP
  rw [OX5_read] at hO
  show RB _ _ _ _ [some (.ref ro), some (.ref tp), some (.int x2), some (.ref pg), none] [] _ _
  refine r_aload rfl ?_
  refine r_aload rfl ?_
  refine r_putr (B' := (B.1, B.2.1, va_up rr ro (va_up (rr ro) 1 (some tp)))) hB.1 rfl ?_
  refine r_aload rfl ?_
  refine r_iload rfl ?_
  refine r_aload rfl ?_
  refine r_alen (x := 700) hB.2.2.2.2.2.1 (by decide) (by decide) rfl ?_
  refine r_min rfl (Nat.le_of_ble_eq_true rfl) ?_
  refine r_put (env' := [(tp, f_tp), (ro, (upd f_this 2 (if 700 < x2 then 700 else x2))), (ro + 1, f_names), (ro + 17, f_useName), (ro + 18, f_usePlace), (ro + 19, f_user), (pg, f_prg), (pg + 1, f_prg_op), (pg + 2, f_prg_number), (pg + 3, f_prg_labelName), (pg + 4, f_prg_labelAt), (pg + 5, f_prg_sender), (pg + 6, f_prg_sendLink), (pg + 7, f_prg_receiver), (pg + 8, f_prg_receiveLink), (pg + 9, f_prg_runMachine), (pg + 10, f_prg_runW), (pg + 11, f_prg_runPriority), (pg + 12, f_prg_runAt), (pg + 13, f_prg_memory)]) 1 (hn _ _ _ _ _ _ _ _ _ _ _ _ _ _ _ _ _ _ _ _) rfl rfl hB.1 ?_
  refine r_aload rfl ?_
  refine r_aload rfl ?_
  refine r_putr (B' := B) hB.1 (congrArg (fun z => ((B.1, B.2.1, z) : mB)) hrr) ?_
  refine r_aload rfl ?_
  refine r_getr (q := pg) hB.1 hB.2.2.2.2.2.2.2.2.2.1 ?_
  obtain ⟨h2, hO⟩ := hO
  have k21 := fun (Q' : Option Int32 → mMH → Prop) hq => tX4_empty (d := d + 4) (B := B) (v := mE v [(tp, f_tp), (ro, (upd f_this 2 (if 700 < x2 then 700 else x2))), (ro + 1, f_names), (ro + 17, f_useName), (ro + 18, f_usePlace), (ro + 19, f_user), (pg, f_prg), (pg + 1, f_prg_op), (pg + 2, f_prg_number), (pg + 3, f_prg_labelName), (pg + 4, f_prg_labelAt), (pg + 5, f_prg_sender), (pg + 6, f_prg_sendLink), (pg + 7, f_prg_receiver), (pg + 8, f_prg_receiveLink), (pg + 9, f_prg_runMachine), (pg + 10, f_prg_runW), (pg + 11, f_prg_runPriority), (pg + 12, f_prg_runAt), (pg + 13, f_prg_memory)]) (w := w) (Q := Q') hB.2.2.2.2.2.2.1 f_prg f_prg_memory h2 hq
  generalize hg_u1 : FX4_empty f_prg f_prg_memory = u1 at k21 hP hO
  try dsimp only at hP hO
  refine r_callM (st := []) (o := pg) (as := []) (envc := [(pg, f_prg), (pg + 13, f_prg_memory)]) (envc' := [(pg, u1.2.1), (pg + 13, u1.2.2)]) (env' := [(tp, f_tp), (ro, (upd f_this 2 (if 700 < x2 then 700 else x2))), (ro + 1, f_names), (ro + 17, f_useName), (ro + 18, f_usePlace), (ro + 19, f_user), (pg, u1.2.1), (pg + 1, f_prg_op), (pg + 2, f_prg_number), (pg + 3, f_prg_labelName), (pg + 4, f_prg_labelAt), (pg + 5, f_prg_sender), (pg + 6, f_prg_sendLink), (pg + 7, f_prg_receiver), (pg + 8, f_prg_receiveLink), (pg + 9, f_prg_runMachine), (pg + 10, f_prg_runW), (pg + 11, f_prg_runPriority), (pg + 12, f_prg_runAt), (pg + 13, u1.2.2)]) (rv := none) [false, false, false, false, false, false, true, false, false, false, false, false, false, false, false, false, false, false, false, true] (hn _ _ _ _ _ _ _ _ _ _ _ _ _ _ _ _ _ _ _ _) rfl rfl (Nat.le_of_ble_eq_true rfl) hB.2.2.2.2.2.2.1.1 rfl [pg, pg + 13] rfl rfl rfl k21 ?_
  show RB _ _ _ _ _ [] _ _
  refine r_aload rfl ?_
  refine r_int ?_
  refine r_putz (env' := [(tp, f_tp), (ro, (upd (upd f_this 2 (if 700 < x2 then 700 else x2)) 4 0)), (ro + 1, f_names), (ro + 17, f_useName), (ro + 18, f_usePlace), (ro + 19, f_user), (pg, u1.2.1), (pg + 1, f_prg_op), (pg + 2, f_prg_number), (pg + 3, f_prg_labelName), (pg + 4, f_prg_labelAt), (pg + 5, f_prg_sender), (pg + 6, f_prg_sendLink), (pg + 7, f_prg_receiver), (pg + 8, f_prg_receiveLink), (pg + 9, f_prg_runMachine), (pg + 10, f_prg_runW), (pg + 11, f_prg_runPriority), (pg + 12, f_prg_runAt), (pg + 13, u1.2.2)]) 1 (hn _ _ _ _ _ _ _ _ _ _ _ _ _ _ _ _ _ _ _ _) rfl rfl hB.1 (by decide) ?_
  refine r_aload rfl ?_
  refine r_int ?_
  refine r_put (env' := [(tp, f_tp), (ro, (upd (upd (upd f_this 2 (if 700 < x2 then 700 else x2)) 4 0) 7 0)), (ro + 1, f_names), (ro + 17, f_useName), (ro + 18, f_usePlace), (ro + 19, f_user), (pg, u1.2.1), (pg + 1, f_prg_op), (pg + 2, f_prg_number), (pg + 3, f_prg_labelName), (pg + 4, f_prg_labelAt), (pg + 5, f_prg_sender), (pg + 6, f_prg_sendLink), (pg + 7, f_prg_receiver), (pg + 8, f_prg_receiveLink), (pg + 9, f_prg_runMachine), (pg + 10, f_prg_runW), (pg + 11, f_prg_runPriority), (pg + 12, f_prg_runAt), (pg + 13, u1.2.2)]) 1 (hn _ _ _ _ _ _ _ _ _ _ _ _ _ _ _ _ _ _ _ _) rfl rfl hB.1 ?_
  refine r_aload rfl ?_
  refine r_int ?_
  refine r_put (env' := [(tp, f_tp), (ro, (upd (upd (upd (upd f_this 2 (if 700 < x2 then 700 else x2)) 4 0) 7 0) 9 (-1))), (ro + 1, f_names), (ro + 17, f_useName), (ro + 18, f_usePlace), (ro + 19, f_user), (pg, u1.2.1), (pg + 1, f_prg_op), (pg + 2, f_prg_number), (pg + 3, f_prg_labelName), (pg + 4, f_prg_labelAt), (pg + 5, f_prg_sender), (pg + 6, f_prg_sendLink), (pg + 7, f_prg_receiver), (pg + 8, f_prg_receiveLink), (pg + 9, f_prg_runMachine), (pg + 10, f_prg_runW), (pg + 11, f_prg_runPriority), (pg + 12, f_prg_runAt), (pg + 13, u1.2.2)]) 1 (hn _ _ _ _ _ _ _ _ _ _ _ _ _ _ _ _ _ _ _ _) rfl rfl hB.1 ?_
  refine r_aload rfl ?_
  refine r_int ?_
  refine r_put (env' := [(tp, f_tp), (ro, (upd (upd (upd (upd (upd f_this 2 (if 700 < x2 then 700 else x2)) 4 0) 7 0) 9 (-1)) 10 0)), (ro + 1, f_names), (ro + 17, f_useName), (ro + 18, f_usePlace), (ro + 19, f_user), (pg, u1.2.1), (pg + 1, f_prg_op), (pg + 2, f_prg_number), (pg + 3, f_prg_labelName), (pg + 4, f_prg_labelAt), (pg + 5, f_prg_sender), (pg + 6, f_prg_sendLink), (pg + 7, f_prg_receiver), (pg + 8, f_prg_receiveLink), (pg + 9, f_prg_runMachine), (pg + 10, f_prg_runW), (pg + 11, f_prg_runPriority), (pg + 12, f_prg_runAt), (pg + 13, u1.2.2)]) 1 (hn _ _ _ _ _ _ _ _ _ _ _ _ _ _ _ _ _ _ _ _) rfl rfl hB.1 ?_
  refine r_aload rfl ?_
  obtain ⟨h4, hO⟩ := hO
  have k20 := fun (Q' : Option Int32 → mMH → Prop) hq => tX5_scan (d := d + 3) (B := B) (v := mE v [(tp, f_tp), (ro, (upd (upd (upd (upd (upd f_this 2 (if 700 < x2 then 700 else x2)) 4 0) 7 0) 9 (-1)) 10 0)), (ro + 1, f_names), (ro + 17, f_useName), (ro + 18, f_usePlace), (ro + 19, f_user), (pg, u1.2.1), (pg + 1, f_prg_op), (pg + 2, f_prg_number), (pg + 3, f_prg_labelName), (pg + 4, f_prg_labelAt), (pg + 5, f_prg_sender), (pg + 6, f_prg_sendLink), (pg + 7, f_prg_receiver), (pg + 8, f_prg_receiveLink), (pg + 9, f_prg_runMachine), (pg + 10, f_prg_runW), (pg + 11, f_prg_runPriority), (pg + 12, f_prg_runAt), (pg + 13, u1.2.2)]) (w := w) (Q := Q') hB (by omega) (by omega) f_tp (upd (upd (upd (upd (upd f_this 2 (if 700 < x2 then 700 else x2)) 4 0) 7 0) 9 (-1)) 10 0) h4 hq
  generalize hg_u3 : FX5_scan f_tp (upd (upd (upd (upd (upd f_this 2 (if 700 < x2 then 700 else x2)) 4 0) 7 0) 9 (-1)) 10 0) = u3 at k20 hP hO
  try dsimp only at hP hO
  refine r_callM (st := []) (o := ro) (as := []) (envc := [(tp, f_tp), (ro, (upd (upd (upd (upd (upd f_this 2 (if 700 < x2 then 700 else x2)) 4 0) 7 0) 9 (-1)) 10 0))]) (envc' := [(tp, f_tp), (ro, u3.2)]) (env' := [(tp, f_tp), (ro, u3.2), (ro + 1, f_names), (ro + 17, f_useName), (ro + 18, f_usePlace), (ro + 19, f_user), (pg, u1.2.1), (pg + 1, f_prg_op), (pg + 2, f_prg_number), (pg + 3, f_prg_labelName), (pg + 4, f_prg_labelAt), (pg + 5, f_prg_sender), (pg + 6, f_prg_sendLink), (pg + 7, f_prg_receiver), (pg + 8, f_prg_receiveLink), (pg + 9, f_prg_runMachine), (pg + 10, f_prg_runW), (pg + 11, f_prg_runPriority), (pg + 12, f_prg_runAt), (pg + 13, u1.2.2)]) (rv := none) [true, true, false, false, false, false, false, false, false, false, false, false, false, false, false, false, false, false, false, false] (hn _ _ _ _ _ _ _ _ _ _ _ _ _ _ _ _ _ _ _ _) rfl rfl (Nat.le_of_ble_eq_true rfl) hB.1 rfl [tp, ro] rfl rfl rfl k20 ?_
  show RB _ _ _ _ _ [] _ _
  refine r_int ?_
  refine r_istore (L' := [some (.ref ro), some (.ref tp), some (.int x2), some (.ref pg), some (.int 0)]) rfl rfl ?_
  refine r_fall ?_
  obtain ⟨h12, hO⟩ := hO
  generalize hg_u11 : FX5_read_b1 10000 0 f_tp u3.2 f_names f_useName f_usePlace f_user u1.2.1 f_prg_op f_prg_number f_prg_labelName f_prg_labelAt f_prg_sender f_prg_sendLink f_prg_receiver f_prg_receiveLink f_prg_runMachine f_prg_runW f_prg_runPriority f_prg_runAt u1.2.2 = u11 at hP hO
  try dsimp only at hP hO
  refine tX5_read_b1 hB ht hpg rr hrr (u := u11) (f_tp := f_tp) (f_names := f_names) ?_ 10000 0 (some (.ref tp)) rfl (some (.int x2)) rfl (some (.ref pg)) rfl u3.2 f_useName f_usePlace f_user u1.2.1 f_prg_op f_prg_number f_prg_labelName f_prg_labelAt f_prg_sender f_prg_sendLink f_prg_receiver f_prg_receiveLink f_prg_runMachine f_prg_runW f_prg_runPriority f_prg_runAt u1.2.2 h12 hg_u11
  intro e13 he13 e14 he14 e15 he15 e16 he16
  refine r_aload rfl ?_
  have h18 := hO
  have k19 := fun (Q' : Option Int32 → mMH → Prop) hq => tX5_findUses (d := d + 4) (B := B) (v := mE v [(tp, f_tp), (ro, u11.1), (ro + 1, f_names), (ro + 17, u11.2.1), (ro + 18, u11.2.2.1), (ro + 19, u11.2.2.2.1), (pg, u11.2.2.2.2.1), (pg + 1, u11.2.2.2.2.2.1), (pg + 2, u11.2.2.2.2.2.2.1), (pg + 3, u11.2.2.2.2.2.2.2.1), (pg + 4, u11.2.2.2.2.2.2.2.2.1), (pg + 5, u11.2.2.2.2.2.2.2.2.2.1), (pg + 6, u11.2.2.2.2.2.2.2.2.2.2.1), (pg + 7, u11.2.2.2.2.2.2.2.2.2.2.2.1), (pg + 8, u11.2.2.2.2.2.2.2.2.2.2.2.2.1), (pg + 9, u11.2.2.2.2.2.2.2.2.2.2.2.2.2.1), (pg + 10, u11.2.2.2.2.2.2.2.2.2.2.2.2.2.2.1), (pg + 11, u11.2.2.2.2.2.2.2.2.2.2.2.2.2.2.2.1), (pg + 12, u11.2.2.2.2.2.2.2.2.2.2.2.2.2.2.2.2.1), (pg + 13, u11.2.2.2.2.2.2.2.2.2.2.2.2.2.2.2.2.2)]) (w := w) (Q := Q') hB (by omega) (by omega) u11.1 u11.2.1 u11.2.2.1 u11.2.2.2.1 u11.2.2.2.2.1 u11.2.2.2.2.2.2.1 u11.2.2.2.2.2.2.2.1 u11.2.2.2.2.2.2.2.2.1 u11.2.2.2.2.2.2.2.2.2.2.2.2.2.2.2.2.1 h18 hq
  generalize hg_u17 : FX5_findUses u11.1 u11.2.1 u11.2.2.1 u11.2.2.2.1 u11.2.2.2.2.1 u11.2.2.2.2.2.2.1 u11.2.2.2.2.2.2.2.1 u11.2.2.2.2.2.2.2.2.1 u11.2.2.2.2.2.2.2.2.2.2.2.2.2.2.2.2.1 = u17 at k19 hP
  try dsimp only at hP
  refine r_callM (st := []) (o := ro) (as := []) (envc := [(ro, u11.1), (ro + 17, u11.2.1), (ro + 18, u11.2.2.1), (ro + 19, u11.2.2.2.1), (pg, u11.2.2.2.2.1), (pg + 2, u11.2.2.2.2.2.2.1), (pg + 3, u11.2.2.2.2.2.2.2.1), (pg + 4, u11.2.2.2.2.2.2.2.2.1), (pg + 12, u11.2.2.2.2.2.2.2.2.2.2.2.2.2.2.2.2.1)]) (envc' := [(ro, u17.2.1), (ro + 17, u11.2.1), (ro + 18, u11.2.2.1), (ro + 19, u11.2.2.2.1), (pg, u11.2.2.2.2.1), (pg + 2, u17.2.2.1), (pg + 3, u11.2.2.2.2.2.2.2.1), (pg + 4, u11.2.2.2.2.2.2.2.2.1), (pg + 12, u17.2.2.2)]) (env' := [(tp, f_tp), (ro, u17.2.1), (ro + 1, f_names), (ro + 17, u11.2.1), (ro + 18, u11.2.2.1), (ro + 19, u11.2.2.2.1), (pg, u11.2.2.2.2.1), (pg + 1, u11.2.2.2.2.2.1), (pg + 2, u17.2.2.1), (pg + 3, u11.2.2.2.2.2.2.2.1), (pg + 4, u11.2.2.2.2.2.2.2.2.1), (pg + 5, u11.2.2.2.2.2.2.2.2.2.1), (pg + 6, u11.2.2.2.2.2.2.2.2.2.2.1), (pg + 7, u11.2.2.2.2.2.2.2.2.2.2.2.1), (pg + 8, u11.2.2.2.2.2.2.2.2.2.2.2.2.1), (pg + 9, u11.2.2.2.2.2.2.2.2.2.2.2.2.2.1), (pg + 10, u11.2.2.2.2.2.2.2.2.2.2.2.2.2.2.1), (pg + 11, u11.2.2.2.2.2.2.2.2.2.2.2.2.2.2.2.1), (pg + 12, u17.2.2.2), (pg + 13, u11.2.2.2.2.2.2.2.2.2.2.2.2.2.2.2.2.2)]) (rv := none) [false, true, false, true, true, true, true, false, true, true, true, false, false, false, false, false, false, false, true, false] (hn _ _ _ _ _ _ _ _ _ _ _ _ _ _ _ _ _ _ _ _) rfl rfl (Nat.le_of_ble_eq_true rfl) hB.1 rfl [ro, ro + 17, ro + 18, ro + 19, pg, pg + 2, pg + 3, pg + 4, pg + 12] rfl rfl rfl k19 ?_
  show RB _ _ _ _ _ [] _ _
  refine r_aload rfl ?_
  refine r_get (x := u17.2.1 9) 1 (hn _ _ _ _ _ _ _ _ _ _ _ _ _ _ _ _ _ _ _ _) rfl hB.1 (by decide) rfl ?_
  exact r_ret rfl rfl (hPQ (u17.2.1 9) u17.2.1 u11.2.1 u11.2.2.1 u11.2.2.2.1 u11.2.2.2.2.1 u11.2.2.2.2.2.1 u17.2.2.1 u11.2.2.2.2.2.2.2.1 u11.2.2.2.2.2.2.2.2.1 u11.2.2.2.2.2.2.2.2.2.1 u11.2.2.2.2.2.2.2.2.2.2.1 u11.2.2.2.2.2.2.2.2.2.2.2.1 u11.2.2.2.2.2.2.2.2.2.2.2.2.1 u11.2.2.2.2.2.2.2.2.2.2.2.2.2.1 u11.2.2.2.2.2.2.2.2.2.2.2.2.2.2.1 u11.2.2.2.2.2.2.2.2.2.2.2.2.2.2.2.1 u17.2.2.2 u11.2.2.2.2.2.2.2.2.2.2.2.2.2.2.2.2.2 hP)

def FX1_forget (f_this : mF) : Int32 × mF :=
  (0, (upd f_this 0 0))
set_option maxRecDepth 20000 in
theorem tX1_forget {d : Nat} {B : mB} {v : mV} {w : mX} {Q : Option Int32 → mMH → Prop} {ho : Nat} (hB : isHist B ho) (f_this : mF) (hQ : Q (none) (mH B (mE v [(ho, (FX1_forget f_this).2)]) w)) : CQ (d + 1) 6 [.ref ho] (mH B (mE v [(ho, f_this)]) w) Q := by
  have hn : ∀ (f_this : mF), mNd [(ho, f_this)] := fun _ => by
    show List.Nodup _
    simp only [List.map_cons, List.map_nil, List.nodup_cons, List.mem_cons, List.not_mem_nil, or_false, not_or, not_false_eq_true, List.nodup_nil, and_true]
  obtain ⟨P, hPQ, hP⟩ : ∃ P : Int32 × mF → Prop, (∀ (q : Int32) (q0 : mF), P (q, q0) → Q (none) (mH B (mE v [(ho, q0)]) w)) ∧ P (FX1_forget f_this) := ⟨fun res => Q (none) (mH B (mE v [(ho, res.2)]) w), fun _ _ h => h, hQ⟩
  refine r_begin mt_6 (by intro a ha; simp only [List.mem_cons, List.not_mem_nil, or_false] at ha; rcases ha with rfl <;> rfl) (Nat.le_of_ble_eq_true rfl) ?_
  rw [FX1_forget] at hP
  show RB _ _ _ _ [some (.ref ho)] [] _ _
  refine r_aload rfl ?_
  refine r_int ?_
  refine r_put (env' := [(ho, (upd f_this 0 0))]) 0 (hn _) rfl rfl hB.1 ?_
  exact r_retv rfl (hPQ 0 (upd f_this 0 0) hP)

def FX1_remember (nx : Int32) (f_slot : mF) (f_slot_dia : mF) (f_slot_dia_meetings : mF) (f_slot_m0_reg : mF) (f_slot_m0_memory : mF) (f_slot_m0_timers : mF) (f_slot_m0_timers_process : mF) (f_slot_m0_timers_time : mF) (f_slot_m0_timers_isBy : mF) (f_slot_m0_links_0 : mF) (f_slot_m0_links_1 : mF) (f_slot_m1_reg : mF) (f_slot_m1_memory : mF) (f_slot_m1_timers : mF) (f_slot_m1_timers_process : mF) (f_slot_m1_timers_time : mF) (f_slot_m1_timers_isBy : mF) (f_slot_m1_links_0 : mF) (f_slot_m1_links_1 : mF) (f_wld : mF) (f_wld_dia : mF) (f_wld_dia_meetings : mF) (f_wld_m0_reg : mF) (f_wld_m0_memory : mF) (f_wld_m0_timers : mF) (f_wld_m0_timers_process : mF) (f_wld_m0_timers_time : mF) (f_wld_m0_timers_isBy : mF) (f_wld_m0_links_0 : mF) (f_wld_m0_links_1 : mF) (f_wld_m1_reg : mF) (f_wld_m1_memory : mF) (f_wld_m1_timers : mF) (f_wld_m1_timers_process : mF) (f_wld_m1_timers_time : mF) (f_wld_m1_timers_isBy : mF) (f_wld_m1_links_0 : mF) (f_wld_m1_links_1 : mF) (f_this : mF) : Int32 × mF × mF × mF × mF × mF × mF × mF × mF × mF × mF × mF × mF × mF × mF × mF × mF × mF × mF × mF × mF :=
  let u3 := FX8_copy f_slot f_slot_dia f_slot_dia_meetings f_slot_m0_reg f_slot_m0_memory f_slot_m0_timers f_slot_m0_timers_process f_slot_m0_timers_time f_slot_m0_timers_isBy f_slot_m0_links_0 f_slot_m0_links_1 f_slot_m1_reg f_slot_m1_memory f_slot_m1_timers f_slot_m1_timers_process f_slot_m1_timers_time f_slot_m1_timers_isBy f_slot_m1_links_0 f_slot_m1_links_1 f_wld f_wld_dia f_wld_dia_meetings f_wld_m0_reg f_wld_m0_memory f_wld_m0_timers f_wld_m0_timers_process f_wld_m0_timers_time f_wld_m0_timers_isBy f_wld_m0_links_0 f_wld_m0_links_1 f_wld_m1_reg f_wld_m1_memory f_wld_m1_timers f_wld_m1_timers_process f_wld_m1_timers_time f_wld_m1_timers_isBy f_wld_m1_links_0 f_wld_m1_links_1; (0, u3.2.1, u3.2.2.1, u3.2.2.2.1, u3.2.2.2.2.1, u3.2.2.2.2.2.1, u3.2.2.2.2.2.2.1, u3.2.2.2.2.2.2.2.1, u3.2.2.2.2.2.2.2.2.1, u3.2.2.2.2.2.2.2.2.2.1, u3.2.2.2.2.2.2.2.2.2.2.1, u3.2.2.2.2.2.2.2.2.2.2.2.1, u3.2.2.2.2.2.2.2.2.2.2.2.2.1, u3.2.2.2.2.2.2.2.2.2.2.2.2.2.1, u3.2.2.2.2.2.2.2.2.2.2.2.2.2.2.1, u3.2.2.2.2.2.2.2.2.2.2.2.2.2.2.2.1, u3.2.2.2.2.2.2.2.2.2.2.2.2.2.2.2.2.1, u3.2.2.2.2.2.2.2.2.2.2.2.2.2.2.2.2.2.1, u3.2.2.2.2.2.2.2.2.2.2.2.2.2.2.2.2.2.2.1, u3.2.2.2.2.2.2.2.2.2.2.2.2.2.2.2.2.2.2.2, (upd (upd f_this 1 (((f_this 1) + 1) - ((f_this 1) + 1) / 8 * 8)) 0 (if 8 < ((f_this 0) + 1) then 8 else ((f_this 0) + 1))))
def OX1_remember (nx : Int32) (f_slot : mF) (f_slot_dia : mF) (f_slot_dia_meetings : mF) (f_slot_m0_reg : mF) (f_slot_m0_memory : mF) (f_slot_m0_timers : mF) (f_slot_m0_timers_process : mF) (f_slot_m0_timers_time : mF) (f_slot_m0_timers_isBy : mF) (f_slot_m0_links_0 : mF) (f_slot_m0_links_1 : mF) (f_slot_m1_reg : mF) (f_slot_m1_memory : mF) (f_slot_m1_timers : mF) (f_slot_m1_timers_process : mF) (f_slot_m1_timers_time : mF) (f_slot_m1_timers_isBy : mF) (f_slot_m1_links_0 : mF) (f_slot_m1_links_1 : mF) (f_wld : mF) (f_wld_dia : mF) (f_wld_dia_meetings : mF) (f_wld_m0_reg : mF) (f_wld_m0_memory : mF) (f_wld_m0_timers : mF) (f_wld_m0_timers_process : mF) (f_wld_m0_timers_time : mF) (f_wld_m0_timers_isBy : mF) (f_wld_m0_links_0 : mF) (f_wld_m0_links_1 : mF) (f_wld_m1_reg : mF) (f_wld_m1_memory : mF) (f_wld_m1_timers : mF) (f_wld_m1_timers_process : mF) (f_wld_m1_timers_time : mF) (f_wld_m1_timers_isBy : mF) (f_wld_m1_links_0 : mF) (f_wld_m1_links_1 : mF) (f_this : mF) : Prop :=
  (f_this 1) = nx ∧ vp_in nx 8 ∧ (OX8_copy f_slot f_slot_dia f_slot_dia_meetings f_slot_m0_reg f_slot_m0_memory f_slot_m0_timers f_slot_m0_timers_process f_slot_m0_timers_time f_slot_m0_timers_isBy f_slot_m0_links_0 f_slot_m0_links_1 f_slot_m1_reg f_slot_m1_memory f_slot_m1_timers f_slot_m1_timers_process f_slot_m1_timers_time f_slot_m1_timers_isBy f_slot_m1_links_0 f_slot_m1_links_1 f_wld f_wld_dia f_wld_dia_meetings f_wld_m0_reg f_wld_m0_memory f_wld_m0_timers f_wld_m0_timers_process f_wld_m0_timers_time f_wld_m0_timers_isBy f_wld_m0_links_0 f_wld_m0_links_1 f_wld_m1_reg f_wld_m1_memory f_wld_m1_timers f_wld_m1_timers_process f_wld_m1_timers_time f_wld_m1_timers_isBy f_wld_m1_links_0 f_wld_m1_links_1)
set_option maxRecDepth 20000 in
theorem tX1_remember {d : Nat} {B : mB} {v : mV} {w : mX} {Q : Option Int32 → mMH → Prop} {ho wo wo2 : Nat} (hB : isHist B ho) (nx : Int32) (hw : B.2.2 (ho + 1) nx.toNatClampNeg = some wo2) (hW : isWorld B wo) (hW2 : isWorld B wo2) (h1 : wo + 26 ≤ ho) (h2 : ho + 2 ≤ wo2) (f_slot : mF) (f_slot_dia : mF) (f_slot_dia_meetings : mF) (f_slot_m0_reg : mF) (f_slot_m0_memory : mF) (f_slot_m0_timers : mF) (f_slot_m0_timers_process : mF) (f_slot_m0_timers_time : mF) (f_slot_m0_timers_isBy : mF) (f_slot_m0_links_0 : mF) (f_slot_m0_links_1 : mF) (f_slot_m1_reg : mF) (f_slot_m1_memory : mF) (f_slot_m1_timers : mF) (f_slot_m1_timers_process : mF) (f_slot_m1_timers_time : mF) (f_slot_m1_timers_isBy : mF) (f_slot_m1_links_0 : mF) (f_slot_m1_links_1 : mF) (f_wld : mF) (f_wld_dia : mF) (f_wld_dia_meetings : mF) (f_wld_m0_reg : mF) (f_wld_m0_memory : mF) (f_wld_m0_timers : mF) (f_wld_m0_timers_process : mF) (f_wld_m0_timers_time : mF) (f_wld_m0_timers_isBy : mF) (f_wld_m0_links_0 : mF) (f_wld_m0_links_1 : mF) (f_wld_m1_reg : mF) (f_wld_m1_memory : mF) (f_wld_m1_timers : mF) (f_wld_m1_timers_process : mF) (f_wld_m1_timers_time : mF) (f_wld_m1_timers_isBy : mF) (f_wld_m1_links_0 : mF) (f_wld_m1_links_1 : mF) (f_this : mF) (hO : OX1_remember nx f_slot f_slot_dia f_slot_dia_meetings f_slot_m0_reg f_slot_m0_memory f_slot_m0_timers f_slot_m0_timers_process f_slot_m0_timers_time f_slot_m0_timers_isBy f_slot_m0_links_0 f_slot_m0_links_1 f_slot_m1_reg f_slot_m1_memory f_slot_m1_timers f_slot_m1_timers_process f_slot_m1_timers_time f_slot_m1_timers_isBy f_slot_m1_links_0 f_slot_m1_links_1 f_wld f_wld_dia f_wld_dia_meetings f_wld_m0_reg f_wld_m0_memory f_wld_m0_timers f_wld_m0_timers_process f_wld_m0_timers_time f_wld_m0_timers_isBy f_wld_m0_links_0 f_wld_m0_links_1 f_wld_m1_reg f_wld_m1_memory f_wld_m1_timers f_wld_m1_timers_process f_wld_m1_timers_time f_wld_m1_timers_isBy f_wld_m1_links_0 f_wld_m1_links_1 f_this) (hQ : Q (none) (mH B (mE v [(wo2, (FX1_remember nx f_slot f_slot_dia f_slot_dia_meetings f_slot_m0_reg f_slot_m0_memory f_slot_m0_timers f_slot_m0_timers_process f_slot_m0_timers_time f_slot_m0_timers_isBy f_slot_m0_links_0 f_slot_m0_links_1 f_slot_m1_reg f_slot_m1_memory f_slot_m1_timers f_slot_m1_timers_process f_slot_m1_timers_time f_slot_m1_timers_isBy f_slot_m1_links_0 f_slot_m1_links_1 f_wld f_wld_dia f_wld_dia_meetings f_wld_m0_reg f_wld_m0_memory f_wld_m0_timers f_wld_m0_timers_process f_wld_m0_timers_time f_wld_m0_timers_isBy f_wld_m0_links_0 f_wld_m0_links_1 f_wld_m1_reg f_wld_m1_memory f_wld_m1_timers f_wld_m1_timers_process f_wld_m1_timers_time f_wld_m1_timers_isBy f_wld_m1_links_0 f_wld_m1_links_1 f_this).2.1), (wo2 + 1, (FX1_remember nx f_slot f_slot_dia f_slot_dia_meetings f_slot_m0_reg f_slot_m0_memory f_slot_m0_timers f_slot_m0_timers_process f_slot_m0_timers_time f_slot_m0_timers_isBy f_slot_m0_links_0 f_slot_m0_links_1 f_slot_m1_reg f_slot_m1_memory f_slot_m1_timers f_slot_m1_timers_process f_slot_m1_timers_time f_slot_m1_timers_isBy f_slot_m1_links_0 f_slot_m1_links_1 f_wld f_wld_dia f_wld_dia_meetings f_wld_m0_reg f_wld_m0_memory f_wld_m0_timers f_wld_m0_timers_process f_wld_m0_timers_time f_wld_m0_timers_isBy f_wld_m0_links_0 f_wld_m0_links_1 f_wld_m1_reg f_wld_m1_memory f_wld_m1_timers f_wld_m1_timers_process f_wld_m1_timers_time f_wld_m1_timers_isBy f_wld_m1_links_0 f_wld_m1_links_1 f_this).2.2.1), (wo2 + 1 + 1, (FX1_remember nx f_slot f_slot_dia f_slot_dia_meetings f_slot_m0_reg f_slot_m0_memory f_slot_m0_timers f_slot_m0_timers_process f_slot_m0_timers_time f_slot_m0_timers_isBy f_slot_m0_links_0 f_slot_m0_links_1 f_slot_m1_reg f_slot_m1_memory f_slot_m1_timers f_slot_m1_timers_process f_slot_m1_timers_time f_slot_m1_timers_isBy f_slot_m1_links_0 f_slot_m1_links_1 f_wld f_wld_dia f_wld_dia_meetings f_wld_m0_reg f_wld_m0_memory f_wld_m0_timers f_wld_m0_timers_process f_wld_m0_timers_time f_wld_m0_timers_isBy f_wld_m0_links_0 f_wld_m0_links_1 f_wld_m1_reg f_wld_m1_memory f_wld_m1_timers f_wld_m1_timers_process f_wld_m1_timers_time f_wld_m1_timers_isBy f_wld_m1_links_0 f_wld_m1_links_1 f_this).2.2.2.1), (wo2 + 4 + 1, (FX1_remember nx f_slot f_slot_dia f_slot_dia_meetings f_slot_m0_reg f_slot_m0_memory f_slot_m0_timers f_slot_m0_timers_process f_slot_m0_timers_time f_slot_m0_timers_isBy f_slot_m0_links_0 f_slot_m0_links_1 f_slot_m1_reg f_slot_m1_memory f_slot_m1_timers f_slot_m1_timers_process f_slot_m1_timers_time f_slot_m1_timers_isBy f_slot_m1_links_0 f_slot_m1_links_1 f_wld f_wld_dia f_wld_dia_meetings f_wld_m0_reg f_wld_m0_memory f_wld_m0_timers f_wld_m0_timers_process f_wld_m0_timers_time f_wld_m0_timers_isBy f_wld_m0_links_0 f_wld_m0_links_1 f_wld_m1_reg f_wld_m1_memory f_wld_m1_timers f_wld_m1_timers_process f_wld_m1_timers_time f_wld_m1_timers_isBy f_wld_m1_links_0 f_wld_m1_links_1 f_this).2.2.2.2.1), (wo2 + 4 + 3, (FX1_remember nx f_slot f_slot_dia f_slot_dia_meetings f_slot_m0_reg f_slot_m0_memory f_slot_m0_timers f_slot_m0_timers_process f_slot_m0_timers_time f_slot_m0_timers_isBy f_slot_m0_links_0 f_slot_m0_links_1 f_slot_m1_reg f_slot_m1_memory f_slot_m1_timers f_slot_m1_timers_process f_slot_m1_timers_time f_slot_m1_timers_isBy f_slot_m1_links_0 f_slot_m1_links_1 f_wld f_wld_dia f_wld_dia_meetings f_wld_m0_reg f_wld_m0_memory f_wld_m0_timers f_wld_m0_timers_process f_wld_m0_timers_time f_wld_m0_timers_isBy f_wld_m0_links_0 f_wld_m0_links_1 f_wld_m1_reg f_wld_m1_memory f_wld_m1_timers f_wld_m1_timers_process f_wld_m1_timers_time f_wld_m1_timers_isBy f_wld_m1_links_0 f_wld_m1_links_1 f_this).2.2.2.2.2.1), (wo2 + 4 + 4, (FX1_remember nx f_slot f_slot_dia f_slot_dia_meetings f_slot_m0_reg f_slot_m0_memory f_slot_m0_timers f_slot_m0_timers_process f_slot_m0_timers_time f_slot_m0_timers_isBy f_slot_m0_links_0 f_slot_m0_links_1 f_slot_m1_reg f_slot_m1_memory f_slot_m1_timers f_slot_m1_timers_process f_slot_m1_timers_time f_slot_m1_timers_isBy f_slot_m1_links_0 f_slot_m1_links_1 f_wld f_wld_dia f_wld_dia_meetings f_wld_m0_reg f_wld_m0_memory f_wld_m0_timers f_wld_m0_timers_process f_wld_m0_timers_time f_wld_m0_timers_isBy f_wld_m0_links_0 f_wld_m0_links_1 f_wld_m1_reg f_wld_m1_memory f_wld_m1_timers f_wld_m1_timers_process f_wld_m1_timers_time f_wld_m1_timers_isBy f_wld_m1_links_0 f_wld_m1_links_1 f_this).2.2.2.2.2.2.1), (wo2 + 4 + 4 + 1, (FX1_remember nx f_slot f_slot_dia f_slot_dia_meetings f_slot_m0_reg f_slot_m0_memory f_slot_m0_timers f_slot_m0_timers_process f_slot_m0_timers_time f_slot_m0_timers_isBy f_slot_m0_links_0 f_slot_m0_links_1 f_slot_m1_reg f_slot_m1_memory f_slot_m1_timers f_slot_m1_timers_process f_slot_m1_timers_time f_slot_m1_timers_isBy f_slot_m1_links_0 f_slot_m1_links_1 f_wld f_wld_dia f_wld_dia_meetings f_wld_m0_reg f_wld_m0_memory f_wld_m0_timers f_wld_m0_timers_process f_wld_m0_timers_time f_wld_m0_timers_isBy f_wld_m0_links_0 f_wld_m0_links_1 f_wld_m1_reg f_wld_m1_memory f_wld_m1_timers f_wld_m1_timers_process f_wld_m1_timers_time f_wld_m1_timers_isBy f_wld_m1_links_0 f_wld_m1_links_1 f_this).2.2.2.2.2.2.2.1), (wo2 + 4 + 4 + 2, (FX1_remember nx f_slot f_slot_dia f_slot_dia_meetings f_slot_m0_reg f_slot_m0_memory f_slot_m0_timers f_slot_m0_timers_process f_slot_m0_timers_time f_slot_m0_timers_isBy f_slot_m0_links_0 f_slot_m0_links_1 f_slot_m1_reg f_slot_m1_memory f_slot_m1_timers f_slot_m1_timers_process f_slot_m1_timers_time f_slot_m1_timers_isBy f_slot_m1_links_0 f_slot_m1_links_1 f_wld f_wld_dia f_wld_dia_meetings f_wld_m0_reg f_wld_m0_memory f_wld_m0_timers f_wld_m0_timers_process f_wld_m0_timers_time f_wld_m0_timers_isBy f_wld_m0_links_0 f_wld_m0_links_1 f_wld_m1_reg f_wld_m1_memory f_wld_m1_timers f_wld_m1_timers_process f_wld_m1_timers_time f_wld_m1_timers_isBy f_wld_m1_links_0 f_wld_m1_links_1 f_this).2.2.2.2.2.2.2.2.1), (wo2 + 4 + 4 + 3, (FX1_remember nx f_slot f_slot_dia f_slot_dia_meetings f_slot_m0_reg f_slot_m0_memory f_slot_m0_timers f_slot_m0_timers_process f_slot_m0_timers_time f_slot_m0_timers_isBy f_slot_m0_links_0 f_slot_m0_links_1 f_slot_m1_reg f_slot_m1_memory f_slot_m1_timers f_slot_m1_timers_process f_slot_m1_timers_time f_slot_m1_timers_isBy f_slot_m1_links_0 f_slot_m1_links_1 f_wld f_wld_dia f_wld_dia_meetings f_wld_m0_reg f_wld_m0_memory f_wld_m0_timers f_wld_m0_timers_process f_wld_m0_timers_time f_wld_m0_timers_isBy f_wld_m0_links_0 f_wld_m0_links_1 f_wld_m1_reg f_wld_m1_memory f_wld_m1_timers f_wld_m1_timers_process f_wld_m1_timers_time f_wld_m1_timers_isBy f_wld_m1_links_0 f_wld_m1_links_1 f_this).2.2.2.2.2.2.2.2.2.1), (wo2 + 4 + 9, (FX1_remember nx f_slot f_slot_dia f_slot_dia_meetings f_slot_m0_reg f_slot_m0_memory f_slot_m0_timers f_slot_m0_timers_process f_slot_m0_timers_time f_slot_m0_timers_isBy f_slot_m0_links_0 f_slot_m0_links_1 f_slot_m1_reg f_slot_m1_memory f_slot_m1_timers f_slot_m1_timers_process f_slot_m1_timers_time f_slot_m1_timers_isBy f_slot_m1_links_0 f_slot_m1_links_1 f_wld f_wld_dia f_wld_dia_meetings f_wld_m0_reg f_wld_m0_memory f_wld_m0_timers f_wld_m0_timers_process f_wld_m0_timers_time f_wld_m0_timers_isBy f_wld_m0_links_0 f_wld_m0_links_1 f_wld_m1_reg f_wld_m1_memory f_wld_m1_timers f_wld_m1_timers_process f_wld_m1_timers_time f_wld_m1_timers_isBy f_wld_m1_links_0 f_wld_m1_links_1 f_this).2.2.2.2.2.2.2.2.2.2.1), (wo2 + 4 + 10, (FX1_remember nx f_slot f_slot_dia f_slot_dia_meetings f_slot_m0_reg f_slot_m0_memory f_slot_m0_timers f_slot_m0_timers_process f_slot_m0_timers_time f_slot_m0_timers_isBy f_slot_m0_links_0 f_slot_m0_links_1 f_slot_m1_reg f_slot_m1_memory f_slot_m1_timers f_slot_m1_timers_process f_slot_m1_timers_time f_slot_m1_timers_isBy f_slot_m1_links_0 f_slot_m1_links_1 f_wld f_wld_dia f_wld_dia_meetings f_wld_m0_reg f_wld_m0_memory f_wld_m0_timers f_wld_m0_timers_process f_wld_m0_timers_time f_wld_m0_timers_isBy f_wld_m0_links_0 f_wld_m0_links_1 f_wld_m1_reg f_wld_m1_memory f_wld_m1_timers f_wld_m1_timers_process f_wld_m1_timers_time f_wld_m1_timers_isBy f_wld_m1_links_0 f_wld_m1_links_1 f_this).2.2.2.2.2.2.2.2.2.2.2.1), (wo2 + 15 + 1, (FX1_remember nx f_slot f_slot_dia f_slot_dia_meetings f_slot_m0_reg f_slot_m0_memory f_slot_m0_timers f_slot_m0_timers_process f_slot_m0_timers_time f_slot_m0_timers_isBy f_slot_m0_links_0 f_slot_m0_links_1 f_slot_m1_reg f_slot_m1_memory f_slot_m1_timers f_slot_m1_timers_process f_slot_m1_timers_time f_slot_m1_timers_isBy f_slot_m1_links_0 f_slot_m1_links_1 f_wld f_wld_dia f_wld_dia_meetings f_wld_m0_reg f_wld_m0_memory f_wld_m0_timers f_wld_m0_timers_process f_wld_m0_timers_time f_wld_m0_timers_isBy f_wld_m0_links_0 f_wld_m0_links_1 f_wld_m1_reg f_wld_m1_memory f_wld_m1_timers f_wld_m1_timers_process f_wld_m1_timers_time f_wld_m1_timers_isBy f_wld_m1_links_0 f_wld_m1_links_1 f_this).2.2.2.2.2.2.2.2.2.2.2.2.1), (wo2 + 15 + 3, (FX1_remember nx f_slot f_slot_dia f_slot_dia_meetings f_slot_m0_reg f_slot_m0_memory f_slot_m0_timers f_slot_m0_timers_process f_slot_m0_timers_time f_slot_m0_timers_isBy f_slot_m0_links_0 f_slot_m0_links_1 f_slot_m1_reg f_slot_m1_memory f_slot_m1_timers f_slot_m1_timers_process f_slot_m1_timers_time f_slot_m1_timers_isBy f_slot_m1_links_0 f_slot_m1_links_1 f_wld f_wld_dia f_wld_dia_meetings f_wld_m0_reg f_wld_m0_memory f_wld_m0_timers f_wld_m0_timers_process f_wld_m0_timers_time f_wld_m0_timers_isBy f_wld_m0_links_0 f_wld_m0_links_1 f_wld_m1_reg f_wld_m1_memory f_wld_m1_timers f_wld_m1_timers_process f_wld_m1_timers_time f_wld_m1_timers_isBy f_wld_m1_links_0 f_wld_m1_links_1 f_this).2.2.2.2.2.2.2.2.2.2.2.2.2.1), (wo2 + 15 + 4, (FX1_remember nx f_slot f_slot_dia f_slot_dia_meetings f_slot_m0_reg f_slot_m0_memory f_slot_m0_timers f_slot_m0_timers_process f_slot_m0_timers_time f_slot_m0_timers_isBy f_slot_m0_links_0 f_slot_m0_links_1 f_slot_m1_reg f_slot_m1_memory f_slot_m1_timers f_slot_m1_timers_process f_slot_m1_timers_time f_slot_m1_timers_isBy f_slot_m1_links_0 f_slot_m1_links_1 f_wld f_wld_dia f_wld_dia_meetings f_wld_m0_reg f_wld_m0_memory f_wld_m0_timers f_wld_m0_timers_process f_wld_m0_timers_time f_wld_m0_timers_isBy f_wld_m0_links_0 f_wld_m0_links_1 f_wld_m1_reg f_wld_m1_memory f_wld_m1_timers f_wld_m1_timers_process f_wld_m1_timers_time f_wld_m1_timers_isBy f_wld_m1_links_0 f_wld_m1_links_1 f_this).2.2.2.2.2.2.2.2.2.2.2.2.2.2.1), (wo2 + 15 + 4 + 1, (FX1_remember nx f_slot f_slot_dia f_slot_dia_meetings f_slot_m0_reg f_slot_m0_memory f_slot_m0_timers f_slot_m0_timers_process f_slot_m0_timers_time f_slot_m0_timers_isBy f_slot_m0_links_0 f_slot_m0_links_1 f_slot_m1_reg f_slot_m1_memory f_slot_m1_timers f_slot_m1_timers_process f_slot_m1_timers_time f_slot_m1_timers_isBy f_slot_m1_links_0 f_slot_m1_links_1 f_wld f_wld_dia f_wld_dia_meetings f_wld_m0_reg f_wld_m0_memory f_wld_m0_timers f_wld_m0_timers_process f_wld_m0_timers_time f_wld_m0_timers_isBy f_wld_m0_links_0 f_wld_m0_links_1 f_wld_m1_reg f_wld_m1_memory f_wld_m1_timers f_wld_m1_timers_process f_wld_m1_timers_time f_wld_m1_timers_isBy f_wld_m1_links_0 f_wld_m1_links_1 f_this).2.2.2.2.2.2.2.2.2.2.2.2.2.2.2.1), (wo2 + 15 + 4 + 2, (FX1_remember nx f_slot f_slot_dia f_slot_dia_meetings f_slot_m0_reg f_slot_m0_memory f_slot_m0_timers f_slot_m0_timers_process f_slot_m0_timers_time f_slot_m0_timers_isBy f_slot_m0_links_0 f_slot_m0_links_1 f_slot_m1_reg f_slot_m1_memory f_slot_m1_timers f_slot_m1_timers_process f_slot_m1_timers_time f_slot_m1_timers_isBy f_slot_m1_links_0 f_slot_m1_links_1 f_wld f_wld_dia f_wld_dia_meetings f_wld_m0_reg f_wld_m0_memory f_wld_m0_timers f_wld_m0_timers_process f_wld_m0_timers_time f_wld_m0_timers_isBy f_wld_m0_links_0 f_wld_m0_links_1 f_wld_m1_reg f_wld_m1_memory f_wld_m1_timers f_wld_m1_timers_process f_wld_m1_timers_time f_wld_m1_timers_isBy f_wld_m1_links_0 f_wld_m1_links_1 f_this).2.2.2.2.2.2.2.2.2.2.2.2.2.2.2.2.1), (wo2 + 15 + 4 + 3, (FX1_remember nx f_slot f_slot_dia f_slot_dia_meetings f_slot_m0_reg f_slot_m0_memory f_slot_m0_timers f_slot_m0_timers_process f_slot_m0_timers_time f_slot_m0_timers_isBy f_slot_m0_links_0 f_slot_m0_links_1 f_slot_m1_reg f_slot_m1_memory f_slot_m1_timers f_slot_m1_timers_process f_slot_m1_timers_time f_slot_m1_timers_isBy f_slot_m1_links_0 f_slot_m1_links_1 f_wld f_wld_dia f_wld_dia_meetings f_wld_m0_reg f_wld_m0_memory f_wld_m0_timers f_wld_m0_timers_process f_wld_m0_timers_time f_wld_m0_timers_isBy f_wld_m0_links_0 f_wld_m0_links_1 f_wld_m1_reg f_wld_m1_memory f_wld_m1_timers f_wld_m1_timers_process f_wld_m1_timers_time f_wld_m1_timers_isBy f_wld_m1_links_0 f_wld_m1_links_1 f_this).2.2.2.2.2.2.2.2.2.2.2.2.2.2.2.2.2.1), (wo2 + 15 + 9, (FX1_remember nx f_slot f_slot_dia f_slot_dia_meetings f_slot_m0_reg f_slot_m0_memory f_slot_m0_timers f_slot_m0_timers_process f_slot_m0_timers_time f_slot_m0_timers_isBy f_slot_m0_links_0 f_slot_m0_links_1 f_slot_m1_reg f_slot_m1_memory f_slot_m1_timers f_slot_m1_timers_process f_slot_m1_timers_time f_slot_m1_timers_isBy f_slot_m1_links_0 f_slot_m1_links_1 f_wld f_wld_dia f_wld_dia_meetings f_wld_m0_reg f_wld_m0_memory f_wld_m0_timers f_wld_m0_timers_process f_wld_m0_timers_time f_wld_m0_timers_isBy f_wld_m0_links_0 f_wld_m0_links_1 f_wld_m1_reg f_wld_m1_memory f_wld_m1_timers f_wld_m1_timers_process f_wld_m1_timers_time f_wld_m1_timers_isBy f_wld_m1_links_0 f_wld_m1_links_1 f_this).2.2.2.2.2.2.2.2.2.2.2.2.2.2.2.2.2.2.1), (wo2 + 15 + 10, (FX1_remember nx f_slot f_slot_dia f_slot_dia_meetings f_slot_m0_reg f_slot_m0_memory f_slot_m0_timers f_slot_m0_timers_process f_slot_m0_timers_time f_slot_m0_timers_isBy f_slot_m0_links_0 f_slot_m0_links_1 f_slot_m1_reg f_slot_m1_memory f_slot_m1_timers f_slot_m1_timers_process f_slot_m1_timers_time f_slot_m1_timers_isBy f_slot_m1_links_0 f_slot_m1_links_1 f_wld f_wld_dia f_wld_dia_meetings f_wld_m0_reg f_wld_m0_memory f_wld_m0_timers f_wld_m0_timers_process f_wld_m0_timers_time f_wld_m0_timers_isBy f_wld_m0_links_0 f_wld_m0_links_1 f_wld_m1_reg f_wld_m1_memory f_wld_m1_timers f_wld_m1_timers_process f_wld_m1_timers_time f_wld_m1_timers_isBy f_wld_m1_links_0 f_wld_m1_links_1 f_this).2.2.2.2.2.2.2.2.2.2.2.2.2.2.2.2.2.2.2.1), (wo, f_wld), (wo + 1, f_wld_dia), (wo + 1 + 1, f_wld_dia_meetings), (wo + 4 + 1, f_wld_m0_reg), (wo + 4 + 3, f_wld_m0_memory), (wo + 4 + 4, f_wld_m0_timers), (wo + 4 + 4 + 1, f_wld_m0_timers_process), (wo + 4 + 4 + 2, f_wld_m0_timers_time), (wo + 4 + 4 + 3, f_wld_m0_timers_isBy), (wo + 4 + 9, f_wld_m0_links_0), (wo + 4 + 10, f_wld_m0_links_1), (wo + 15 + 1, f_wld_m1_reg), (wo + 15 + 3, f_wld_m1_memory), (wo + 15 + 4, f_wld_m1_timers), (wo + 15 + 4 + 1, f_wld_m1_timers_process), (wo + 15 + 4 + 2, f_wld_m1_timers_time), (wo + 15 + 4 + 3, f_wld_m1_timers_isBy), (wo + 15 + 9, f_wld_m1_links_0), (wo + 15 + 10, f_wld_m1_links_1), (ho, (FX1_remember nx f_slot f_slot_dia f_slot_dia_meetings f_slot_m0_reg f_slot_m0_memory f_slot_m0_timers f_slot_m0_timers_process f_slot_m0_timers_time f_slot_m0_timers_isBy f_slot_m0_links_0 f_slot_m0_links_1 f_slot_m1_reg f_slot_m1_memory f_slot_m1_timers f_slot_m1_timers_process f_slot_m1_timers_time f_slot_m1_timers_isBy f_slot_m1_links_0 f_slot_m1_links_1 f_wld f_wld_dia f_wld_dia_meetings f_wld_m0_reg f_wld_m0_memory f_wld_m0_timers f_wld_m0_timers_process f_wld_m0_timers_time f_wld_m0_timers_isBy f_wld_m0_links_0 f_wld_m0_links_1 f_wld_m1_reg f_wld_m1_memory f_wld_m1_timers f_wld_m1_timers_process f_wld_m1_timers_time f_wld_m1_timers_isBy f_wld_m1_links_0 f_wld_m1_links_1 f_this).2.2.2.2.2.2.2.2.2.2.2.2.2.2.2.2.2.2.2.2)]) w)) : CQ (d + 5) 7 [.ref ho, .ref wo] (mH B (mE v [(wo2, f_slot), (wo2 + 1, f_slot_dia), (wo2 + 1 + 1, f_slot_dia_meetings), (wo2 + 4 + 1, f_slot_m0_reg), (wo2 + 4 + 3, f_slot_m0_memory), (wo2 + 4 + 4, f_slot_m0_timers), (wo2 + 4 + 4 + 1, f_slot_m0_timers_process), (wo2 + 4 + 4 + 2, f_slot_m0_timers_time), (wo2 + 4 + 4 + 3, f_slot_m0_timers_isBy), (wo2 + 4 + 9, f_slot_m0_links_0), (wo2 + 4 + 10, f_slot_m0_links_1), (wo2 + 15 + 1, f_slot_m1_reg), (wo2 + 15 + 3, f_slot_m1_memory), (wo2 + 15 + 4, f_slot_m1_timers), (wo2 + 15 + 4 + 1, f_slot_m1_timers_process), (wo2 + 15 + 4 + 2, f_slot_m1_timers_time), (wo2 + 15 + 4 + 3, f_slot_m1_timers_isBy), (wo2 + 15 + 9, f_slot_m1_links_0), (wo2 + 15 + 10, f_slot_m1_links_1), (wo, f_wld), (wo + 1, f_wld_dia), (wo + 1 + 1, f_wld_dia_meetings), (wo + 4 + 1, f_wld_m0_reg), (wo + 4 + 3, f_wld_m0_memory), (wo + 4 + 4, f_wld_m0_timers), (wo + 4 + 4 + 1, f_wld_m0_timers_process), (wo + 4 + 4 + 2, f_wld_m0_timers_time), (wo + 4 + 4 + 3, f_wld_m0_timers_isBy), (wo + 4 + 9, f_wld_m0_links_0), (wo + 4 + 10, f_wld_m0_links_1), (wo + 15 + 1, f_wld_m1_reg), (wo + 15 + 3, f_wld_m1_memory), (wo + 15 + 4, f_wld_m1_timers), (wo + 15 + 4 + 1, f_wld_m1_timers_process), (wo + 15 + 4 + 2, f_wld_m1_timers_time), (wo + 15 + 4 + 3, f_wld_m1_timers_isBy), (wo + 15 + 9, f_wld_m1_links_0), (wo + 15 + 10, f_wld_m1_links_1), (ho, f_this)]) w) Q := by
  have hn : ∀ (f_slot : mF) (f_slot_dia : mF) (f_slot_dia_meetings : mF) (f_slot_m0_reg : mF) (f_slot_m0_memory : mF) (f_slot_m0_timers : mF) (f_slot_m0_timers_process : mF) (f_slot_m0_timers_time : mF) (f_slot_m0_timers_isBy : mF) (f_slot_m0_links_0 : mF) (f_slot_m0_links_1 : mF) (f_slot_m1_reg : mF) (f_slot_m1_memory : mF) (f_slot_m1_timers : mF) (f_slot_m1_timers_process : mF) (f_slot_m1_timers_time : mF) (f_slot_m1_timers_isBy : mF) (f_slot_m1_links_0 : mF) (f_slot_m1_links_1 : mF) (f_wld : mF) (f_wld_dia : mF) (f_wld_dia_meetings : mF) (f_wld_m0_reg : mF) (f_wld_m0_memory : mF) (f_wld_m0_timers : mF) (f_wld_m0_timers_process : mF) (f_wld_m0_timers_time : mF) (f_wld_m0_timers_isBy : mF) (f_wld_m0_links_0 : mF) (f_wld_m0_links_1 : mF) (f_wld_m1_reg : mF) (f_wld_m1_memory : mF) (f_wld_m1_timers : mF) (f_wld_m1_timers_process : mF) (f_wld_m1_timers_time : mF) (f_wld_m1_timers_isBy : mF) (f_wld_m1_links_0 : mF) (f_wld_m1_links_1 : mF) (f_this : mF), mNd [(wo2, f_slot), (wo2 + 1, f_slot_dia), (wo2 + 1 + 1, f_slot_dia_meetings), (wo2 + 4 + 1, f_slot_m0_reg), (wo2 + 4 + 3, f_slot_m0_memory), (wo2 + 4 + 4, f_slot_m0_timers), (wo2 + 4 + 4 + 1, f_slot_m0_timers_process), (wo2 + 4 + 4 + 2, f_slot_m0_timers_time), (wo2 + 4 + 4 + 3, f_slot_m0_timers_isBy), (wo2 + 4 + 9, f_slot_m0_links_0), (wo2 + 4 + 10, f_slot_m0_links_1), (wo2 + 15 + 1, f_slot_m1_reg), (wo2 + 15 + 3, f_slot_m1_memory), (wo2 + 15 + 4, f_slot_m1_timers), (wo2 + 15 + 4 + 1, f_slot_m1_timers_process), (wo2 + 15 + 4 + 2, f_slot_m1_timers_time), (wo2 + 15 + 4 + 3, f_slot_m1_timers_isBy), (wo2 + 15 + 9, f_slot_m1_links_0), (wo2 + 15 + 10, f_slot_m1_links_1), (wo, f_wld), (wo + 1, f_wld_dia), (wo + 1 + 1, f_wld_dia_meetings), (wo + 4 + 1, f_wld_m0_reg), (wo + 4 + 3, f_wld_m0_memory), (wo + 4 + 4, f_wld_m0_timers), (wo + 4 + 4 + 1, f_wld_m0_timers_process), (wo + 4 + 4 + 2, f_wld_m0_timers_time), (wo + 4 + 4 + 3, f_wld_m0_timers_isBy), (wo + 4 + 9, f_wld_m0_links_0), (wo + 4 + 10, f_wld_m0_links_1), (wo + 15 + 1, f_wld_m1_reg), (wo + 15 + 3, f_wld_m1_memory), (wo + 15 + 4, f_wld_m1_timers), (wo + 15 + 4 + 1, f_wld_m1_timers_process), (wo + 15 + 4 + 2, f_wld_m1_timers_time), (wo + 15 + 4 + 3, f_wld_m1_timers_isBy), (wo + 15 + 9, f_wld_m1_links_0), (wo + 15 + 10, f_wld_m1_links_1), (ho, f_this)] := fun _ _ _ _ _ _ _ _ _ _ _ _ _ _ _ _ _ _ _ _ _ _ _ _ _ _ _ _ _ _ _ _ _ _ _ _ _ _ _ => ((ndG_cons wo2 26 [0, 1, 2, 5, 7, 8, 9, 10, 11, 13, 14, 16, 18, 19, 20, 21, 22, 24, 25] [(wo, 26, [0, 1, 2, 5, 7, 8, 9, 10, 11, 13, 14, 16, 18, 19, 20, 21, 22, 24, 25]), (ho, 1, [0])] (by decide) (List.forall_mem_cons.mpr ⟨(show wo2 + 26 ≤ wo ∨ wo + 26 ≤ wo2 by omega), (List.forall_mem_cons.mpr ⟨(show wo2 + 26 ≤ ho ∨ ho + 1 ≤ wo2 by omega), (fun _ h => absurd h List.not_mem_nil)⟩)⟩) (ndG_cons wo 26 [0, 1, 2, 5, 7, 8, 9, 10, 11, 13, 14, 16, 18, 19, 20, 21, 22, 24, 25] [(ho, 1, [0])] (by decide) (List.forall_mem_cons.mpr ⟨(show wo + 26 ≤ ho ∨ ho + 1 ≤ wo by omega), (fun _ h => absurd h List.not_mem_nil)⟩) (ndG_cons ho 1 [0] [] (by decide) (fun _ h => absurd h List.not_mem_nil) ndG_nil)))).1
  obtain ⟨P, hPQ, hP⟩ : ∃ P : Int32 × mF × mF × mF × mF × mF × mF × mF × mF × mF × mF × mF × mF × mF × mF × mF × mF × mF × mF × mF × mF → Prop, (∀ (q : Int32) (q0 : mF) (q1 : mF) (q2 : mF) (q3 : mF) (q4 : mF) (q5 : mF) (q6 : mF) (q7 : mF) (q8 : mF) (q9 : mF) (q10 : mF) (q11 : mF) (q12 : mF) (q13 : mF) (q14 : mF) (q15 : mF) (q16 : mF) (q17 : mF) (q18 : mF) (q19 : mF), P (q, q0, q1, q2, q3, q4, q5, q6, q7, q8, q9, q10, q11, q12, q13, q14, q15, q16, q17, q18, q19) → Q (none) (mH B (mE v [(wo2, q0), (wo2 + 1, q1), (wo2 + 1 + 1, q2), (wo2 + 4 + 1, q3), (wo2 + 4 + 3, q4), (wo2 + 4 + 4, q5), (wo2 + 4 + 4 + 1, q6), (wo2 + 4 + 4 + 2, q7), (wo2 + 4 + 4 + 3, q8), (wo2 + 4 + 9, q9), (wo2 + 4 + 10, q10), (wo2 + 15 + 1, q11), (wo2 + 15 + 3, q12), (wo2 + 15 + 4, q13), (wo2 + 15 + 4 + 1, q14), (wo2 + 15 + 4 + 2, q15), (wo2 + 15 + 4 + 3, q16), (wo2 + 15 + 9, q17), (wo2 + 15 + 10, q18), (wo, f_wld), (wo + 1, f_wld_dia), (wo + 1 + 1, f_wld_dia_meetings), (wo + 4 + 1, f_wld_m0_reg), (wo + 4 + 3, f_wld_m0_memory), (wo + 4 + 4, f_wld_m0_timers), (wo + 4 + 4 + 1, f_wld_m0_timers_process), (wo + 4 + 4 + 2, f_wld_m0_timers_time), (wo + 4 + 4 + 3, f_wld_m0_timers_isBy), (wo + 4 + 9, f_wld_m0_links_0), (wo + 4 + 10, f_wld_m0_links_1), (wo + 15 + 1, f_wld_m1_reg), (wo + 15 + 3, f_wld_m1_memory), (wo + 15 + 4, f_wld_m1_timers), (wo + 15 + 4 + 1, f_wld_m1_timers_process), (wo + 15 + 4 + 2, f_wld_m1_timers_time), (wo + 15 + 4 + 3, f_wld_m1_timers_isBy), (wo + 15 + 9, f_wld_m1_links_0), (wo + 15 + 10, f_wld_m1_links_1), (ho, q19)]) w)) ∧ P (FX1_remember nx f_slot f_slot_dia f_slot_dia_meetings f_slot_m0_reg f_slot_m0_memory f_slot_m0_timers f_slot_m0_timers_process f_slot_m0_timers_time f_slot_m0_timers_isBy f_slot_m0_links_0 f_slot_m0_links_1 f_slot_m1_reg f_slot_m1_memory f_slot_m1_timers f_slot_m1_timers_process f_slot_m1_timers_time f_slot_m1_timers_isBy f_slot_m1_links_0 f_slot_m1_links_1 f_wld f_wld_dia f_wld_dia_meetings f_wld_m0_reg f_wld_m0_memory f_wld_m0_timers f_wld_m0_timers_process f_wld_m0_timers_time f_wld_m0_timers_isBy f_wld_m0_links_0 f_wld_m0_links_1 f_wld_m1_reg f_wld_m1_memory f_wld_m1_timers f_wld_m1_timers_process f_wld_m1_timers_time f_wld_m1_timers_isBy f_wld_m1_links_0 f_wld_m1_links_1 f_this) := ⟨fun res => Q (none) (mH B (mE v [(wo2, res.2.1), (wo2 + 1, res.2.2.1), (wo2 + 1 + 1, res.2.2.2.1), (wo2 + 4 + 1, res.2.2.2.2.1), (wo2 + 4 + 3, res.2.2.2.2.2.1), (wo2 + 4 + 4, res.2.2.2.2.2.2.1), (wo2 + 4 + 4 + 1, res.2.2.2.2.2.2.2.1), (wo2 + 4 + 4 + 2, res.2.2.2.2.2.2.2.2.1), (wo2 + 4 + 4 + 3, res.2.2.2.2.2.2.2.2.2.1), (wo2 + 4 + 9, res.2.2.2.2.2.2.2.2.2.2.1), (wo2 + 4 + 10, res.2.2.2.2.2.2.2.2.2.2.2.1), (wo2 + 15 + 1, res.2.2.2.2.2.2.2.2.2.2.2.2.1), (wo2 + 15 + 3, res.2.2.2.2.2.2.2.2.2.2.2.2.2.1), (wo2 + 15 + 4, res.2.2.2.2.2.2.2.2.2.2.2.2.2.2.1), (wo2 + 15 + 4 + 1, res.2.2.2.2.2.2.2.2.2.2.2.2.2.2.2.1), (wo2 + 15 + 4 + 2, res.2.2.2.2.2.2.2.2.2.2.2.2.2.2.2.2.1), (wo2 + 15 + 4 + 3, res.2.2.2.2.2.2.2.2.2.2.2.2.2.2.2.2.2.1), (wo2 + 15 + 9, res.2.2.2.2.2.2.2.2.2.2.2.2.2.2.2.2.2.2.1), (wo2 + 15 + 10, res.2.2.2.2.2.2.2.2.2.2.2.2.2.2.2.2.2.2.2.1), (wo, f_wld), (wo + 1, f_wld_dia), (wo + 1 + 1, f_wld_dia_meetings), (wo + 4 + 1, f_wld_m0_reg), (wo + 4 + 3, f_wld_m0_memory), (wo + 4 + 4, f_wld_m0_timers), (wo + 4 + 4 + 1, f_wld_m0_timers_process), (wo + 4 + 4 + 2, f_wld_m0_timers_time), (wo + 4 + 4 + 3, f_wld_m0_timers_isBy), (wo + 4 + 9, f_wld_m0_links_0), (wo + 4 + 10, f_wld_m0_links_1), (wo + 15 + 1, f_wld_m1_reg), (wo + 15 + 3, f_wld_m1_memory), (wo + 15 + 4, f_wld_m1_timers), (wo + 15 + 4 + 1, f_wld_m1_timers_process), (wo + 15 + 4 + 2, f_wld_m1_timers_time), (wo + 15 + 4 + 3, f_wld_m1_timers_isBy), (wo + 15 + 9, f_wld_m1_links_0), (wo + 15 + 10, f_wld_m1_links_1), (ho, res.2.2.2.2.2.2.2.2.2.2.2.2.2.2.2.2.2.2.2.2)]) w), fun _ _ _ _ _ _ _ _ _ _ _ _ _ _ _ _ _ _ _ _ _ h => h, hQ⟩
  refine r_begin mt_7 (by intro a ha; simp only [List.mem_cons, List.not_mem_nil, or_false] at ha; rcases ha with rfl | rfl <;> rfl) (Nat.le_of_ble_eq_true rfl) ?_
  rw [FX1_remember] at hP
  rw [OX1_remember] at hO
  show RB _ _ _ _ [some (.ref ho), some (.ref wo)] [] _ _
  refine r_aload rfl ?_
  refine r_getr (q := ho + 1) hB.1 hB.2.2 ?_
  refine r_aload rfl ?_
  refine r_get (x := f_this 1) 38 (hn _ _ _ _ _ _ _ _ _ _ _ _ _ _ _ _ _ _ _ _ _ _ _ _ _ _ _ _ _ _ _ _ _ _ _ _ _ _ _) rfl hB.1 (by decide) rfl ?_
  obtain ⟨h1, h2, hO⟩ := hO
  refine r_aldr (q := wo2) hB.2.1 (Or.inr (Or.inr rfl)) (by rw [h1]; exact h2) (by rw [h1]; exact hw) ?_
  refine r_aload rfl ?_
  have h4 := hO
  have k5 := fun (Q' : Option Int32 → mMH → Prop) hq => tX8_copy (d := d + 0) (B := B) (v := mE v [(wo2, f_slot), (wo2 + 1, f_slot_dia), (wo2 + 1 + 1, f_slot_dia_meetings), (wo2 + 4 + 1, f_slot_m0_reg), (wo2 + 4 + 3, f_slot_m0_memory), (wo2 + 4 + 4, f_slot_m0_timers), (wo2 + 4 + 4 + 1, f_slot_m0_timers_process), (wo2 + 4 + 4 + 2, f_slot_m0_timers_time), (wo2 + 4 + 4 + 3, f_slot_m0_timers_isBy), (wo2 + 4 + 9, f_slot_m0_links_0), (wo2 + 4 + 10, f_slot_m0_links_1), (wo2 + 15 + 1, f_slot_m1_reg), (wo2 + 15 + 3, f_slot_m1_memory), (wo2 + 15 + 4, f_slot_m1_timers), (wo2 + 15 + 4 + 1, f_slot_m1_timers_process), (wo2 + 15 + 4 + 2, f_slot_m1_timers_time), (wo2 + 15 + 4 + 3, f_slot_m1_timers_isBy), (wo2 + 15 + 9, f_slot_m1_links_0), (wo2 + 15 + 10, f_slot_m1_links_1), (wo, f_wld), (wo + 1, f_wld_dia), (wo + 1 + 1, f_wld_dia_meetings), (wo + 4 + 1, f_wld_m0_reg), (wo + 4 + 3, f_wld_m0_memory), (wo + 4 + 4, f_wld_m0_timers), (wo + 4 + 4 + 1, f_wld_m0_timers_process), (wo + 4 + 4 + 2, f_wld_m0_timers_time), (wo + 4 + 4 + 3, f_wld_m0_timers_isBy), (wo + 4 + 9, f_wld_m0_links_0), (wo + 4 + 10, f_wld_m0_links_1), (wo + 15 + 1, f_wld_m1_reg), (wo + 15 + 3, f_wld_m1_memory), (wo + 15 + 4, f_wld_m1_timers), (wo + 15 + 4 + 1, f_wld_m1_timers_process), (wo + 15 + 4 + 2, f_wld_m1_timers_time), (wo + 15 + 4 + 3, f_wld_m1_timers_isBy), (wo + 15 + 9, f_wld_m1_links_0), (wo + 15 + 10, f_wld_m1_links_1), (ho, f_this)]) (w := w) (Q := Q') hW2 hW (by omega) f_slot f_slot_dia f_slot_dia_meetings f_slot_m0_reg f_slot_m0_memory f_slot_m0_timers f_slot_m0_timers_process f_slot_m0_timers_time f_slot_m0_timers_isBy f_slot_m0_links_0 f_slot_m0_links_1 f_slot_m1_reg f_slot_m1_memory f_slot_m1_timers f_slot_m1_timers_process f_slot_m1_timers_time f_slot_m1_timers_isBy f_slot_m1_links_0 f_slot_m1_links_1 f_wld f_wld_dia f_wld_dia_meetings f_wld_m0_reg f_wld_m0_memory f_wld_m0_timers f_wld_m0_timers_process f_wld_m0_timers_time f_wld_m0_timers_isBy f_wld_m0_links_0 f_wld_m0_links_1 f_wld_m1_reg f_wld_m1_memory f_wld_m1_timers f_wld_m1_timers_process f_wld_m1_timers_time f_wld_m1_timers_isBy f_wld_m1_links_0 f_wld_m1_links_1 h4 hq
  generalize hg_u3 : FX8_copy f_slot f_slot_dia f_slot_dia_meetings f_slot_m0_reg f_slot_m0_memory f_slot_m0_timers f_slot_m0_timers_process f_slot_m0_timers_time f_slot_m0_timers_isBy f_slot_m0_links_0 f_slot_m0_links_1 f_slot_m1_reg f_slot_m1_memory f_slot_m1_timers f_slot_m1_timers_process f_slot_m1_timers_time f_slot_m1_timers_isBy f_slot_m1_links_0 f_slot_m1_links_1 f_wld f_wld_dia f_wld_dia_meetings f_wld_m0_reg f_wld_m0_memory f_wld_m0_timers f_wld_m0_timers_process f_wld_m0_timers_time f_wld_m0_timers_isBy f_wld_m0_links_0 f_wld_m0_links_1 f_wld_m1_reg f_wld_m1_memory f_wld_m1_timers f_wld_m1_timers_process f_wld_m1_timers_time f_wld_m1_timers_isBy f_wld_m1_links_0 f_wld_m1_links_1 = u3 at k5 hP
  try dsimp only at hP
  refine r_callM (st := []) (o := wo2) (as := [.ref wo]) (envc := [(wo2, f_slot), (wo2 + 1, f_slot_dia), (wo2 + 1 + 1, f_slot_dia_meetings), (wo2 + 4 + 1, f_slot_m0_reg), (wo2 + 4 + 3, f_slot_m0_memory), (wo2 + 4 + 4, f_slot_m0_timers), (wo2 + 4 + 4 + 1, f_slot_m0_timers_process), (wo2 + 4 + 4 + 2, f_slot_m0_timers_time), (wo2 + 4 + 4 + 3, f_slot_m0_timers_isBy), (wo2 + 4 + 9, f_slot_m0_links_0), (wo2 + 4 + 10, f_slot_m0_links_1), (wo2 + 15 + 1, f_slot_m1_reg), (wo2 + 15 + 3, f_slot_m1_memory), (wo2 + 15 + 4, f_slot_m1_timers), (wo2 + 15 + 4 + 1, f_slot_m1_timers_process), (wo2 + 15 + 4 + 2, f_slot_m1_timers_time), (wo2 + 15 + 4 + 3, f_slot_m1_timers_isBy), (wo2 + 15 + 9, f_slot_m1_links_0), (wo2 + 15 + 10, f_slot_m1_links_1), (wo, f_wld), (wo + 1, f_wld_dia), (wo + 1 + 1, f_wld_dia_meetings), (wo + 4 + 1, f_wld_m0_reg), (wo + 4 + 3, f_wld_m0_memory), (wo + 4 + 4, f_wld_m0_timers), (wo + 4 + 4 + 1, f_wld_m0_timers_process), (wo + 4 + 4 + 2, f_wld_m0_timers_time), (wo + 4 + 4 + 3, f_wld_m0_timers_isBy), (wo + 4 + 9, f_wld_m0_links_0), (wo + 4 + 10, f_wld_m0_links_1), (wo + 15 + 1, f_wld_m1_reg), (wo + 15 + 3, f_wld_m1_memory), (wo + 15 + 4, f_wld_m1_timers), (wo + 15 + 4 + 1, f_wld_m1_timers_process), (wo + 15 + 4 + 2, f_wld_m1_timers_time), (wo + 15 + 4 + 3, f_wld_m1_timers_isBy), (wo + 15 + 9, f_wld_m1_links_0), (wo + 15 + 10, f_wld_m1_links_1)]) (envc' := [(wo2, u3.2.1), (wo2 + 1, u3.2.2.1), (wo2 + 1 + 1, u3.2.2.2.1), (wo2 + 4 + 1, u3.2.2.2.2.1), (wo2 + 4 + 3, u3.2.2.2.2.2.1), (wo2 + 4 + 4, u3.2.2.2.2.2.2.1), (wo2 + 4 + 4 + 1, u3.2.2.2.2.2.2.2.1), (wo2 + 4 + 4 + 2, u3.2.2.2.2.2.2.2.2.1), (wo2 + 4 + 4 + 3, u3.2.2.2.2.2.2.2.2.2.1), (wo2 + 4 + 9, u3.2.2.2.2.2.2.2.2.2.2.1), (wo2 + 4 + 10, u3.2.2.2.2.2.2.2.2.2.2.2.1), (wo2 + 15 + 1, u3.2.2.2.2.2.2.2.2.2.2.2.2.1), (wo2 + 15 + 3, u3.2.2.2.2.2.2.2.2.2.2.2.2.2.1), (wo2 + 15 + 4, u3.2.2.2.2.2.2.2.2.2.2.2.2.2.2.1), (wo2 + 15 + 4 + 1, u3.2.2.2.2.2.2.2.2.2.2.2.2.2.2.2.1), (wo2 + 15 + 4 + 2, u3.2.2.2.2.2.2.2.2.2.2.2.2.2.2.2.2.1), (wo2 + 15 + 4 + 3, u3.2.2.2.2.2.2.2.2.2.2.2.2.2.2.2.2.2.1), (wo2 + 15 + 9, u3.2.2.2.2.2.2.2.2.2.2.2.2.2.2.2.2.2.2.1), (wo2 + 15 + 10, u3.2.2.2.2.2.2.2.2.2.2.2.2.2.2.2.2.2.2.2), (wo, f_wld), (wo + 1, f_wld_dia), (wo + 1 + 1, f_wld_dia_meetings), (wo + 4 + 1, f_wld_m0_reg), (wo + 4 + 3, f_wld_m0_memory), (wo + 4 + 4, f_wld_m0_timers), (wo + 4 + 4 + 1, f_wld_m0_timers_process), (wo + 4 + 4 + 2, f_wld_m0_timers_time), (wo + 4 + 4 + 3, f_wld_m0_timers_isBy), (wo + 4 + 9, f_wld_m0_links_0), (wo + 4 + 10, f_wld_m0_links_1), (wo + 15 + 1, f_wld_m1_reg), (wo + 15 + 3, f_wld_m1_memory), (wo + 15 + 4, f_wld_m1_timers), (wo + 15 + 4 + 1, f_wld_m1_timers_process), (wo + 15 + 4 + 2, f_wld_m1_timers_time), (wo + 15 + 4 + 3, f_wld_m1_timers_isBy), (wo + 15 + 9, f_wld_m1_links_0), (wo + 15 + 10, f_wld_m1_links_1)]) (env' := [(wo2, u3.2.1), (wo2 + 1, u3.2.2.1), (wo2 + 1 + 1, u3.2.2.2.1), (wo2 + 4 + 1, u3.2.2.2.2.1), (wo2 + 4 + 3, u3.2.2.2.2.2.1), (wo2 + 4 + 4, u3.2.2.2.2.2.2.1), (wo2 + 4 + 4 + 1, u3.2.2.2.2.2.2.2.1), (wo2 + 4 + 4 + 2, u3.2.2.2.2.2.2.2.2.1), (wo2 + 4 + 4 + 3, u3.2.2.2.2.2.2.2.2.2.1), (wo2 + 4 + 9, u3.2.2.2.2.2.2.2.2.2.2.1), (wo2 + 4 + 10, u3.2.2.2.2.2.2.2.2.2.2.2.1), (wo2 + 15 + 1, u3.2.2.2.2.2.2.2.2.2.2.2.2.1), (wo2 + 15 + 3, u3.2.2.2.2.2.2.2.2.2.2.2.2.2.1), (wo2 + 15 + 4, u3.2.2.2.2.2.2.2.2.2.2.2.2.2.2.1), (wo2 + 15 + 4 + 1, u3.2.2.2.2.2.2.2.2.2.2.2.2.2.2.2.1), (wo2 + 15 + 4 + 2, u3.2.2.2.2.2.2.2.2.2.2.2.2.2.2.2.2.1), (wo2 + 15 + 4 + 3, u3.2.2.2.2.2.2.2.2.2.2.2.2.2.2.2.2.2.1), (wo2 + 15 + 9, u3.2.2.2.2.2.2.2.2.2.2.2.2.2.2.2.2.2.2.1), (wo2 + 15 + 10, u3.2.2.2.2.2.2.2.2.2.2.2.2.2.2.2.2.2.2.2), (wo, f_wld), (wo + 1, f_wld_dia), (wo + 1 + 1, f_wld_dia_meetings), (wo + 4 + 1, f_wld_m0_reg), (wo + 4 + 3, f_wld_m0_memory), (wo + 4 + 4, f_wld_m0_timers), (wo + 4 + 4 + 1, f_wld_m0_timers_process), (wo + 4 + 4 + 2, f_wld_m0_timers_time), (wo + 4 + 4 + 3, f_wld_m0_timers_isBy), (wo + 4 + 9, f_wld_m0_links_0), (wo + 4 + 10, f_wld_m0_links_1), (wo + 15 + 1, f_wld_m1_reg), (wo + 15 + 3, f_wld_m1_memory), (wo + 15 + 4, f_wld_m1_timers), (wo + 15 + 4 + 1, f_wld_m1_timers_process), (wo + 15 + 4 + 2, f_wld_m1_timers_time), (wo + 15 + 4 + 3, f_wld_m1_timers_isBy), (wo + 15 + 9, f_wld_m1_links_0), (wo + 15 + 10, f_wld_m1_links_1), (ho, f_this)]) (rv := none) [true, true, true, true, true, true, true, true, true, true, true, true, true, true, true, true, true, true, true, true, true, true, true, true, true, true, true, true, true, true, true, true, true, true, true, true, true, true, false] (hn _ _ _ _ _ _ _ _ _ _ _ _ _ _ _ _ _ _ _ _ _ _ _ _ _ _ _ _ _ _ _ _ _ _ _ _ _ _ _) rfl rfl (Nat.le_of_ble_eq_true rfl) hW2.1 rfl [wo2, wo2 + 1, wo2 + 1 + 1, wo2 + 4 + 1, wo2 + 4 + 3, wo2 + 4 + 4, wo2 + 4 + 4 + 1, wo2 + 4 + 4 + 2, wo2 + 4 + 4 + 3, wo2 + 4 + 9, wo2 + 4 + 10, wo2 + 15 + 1, wo2 + 15 + 3, wo2 + 15 + 4, wo2 + 15 + 4 + 1, wo2 + 15 + 4 + 2, wo2 + 15 + 4 + 3, wo2 + 15 + 9, wo2 + 15 + 10, wo, wo + 1, wo + 1 + 1, wo + 4 + 1, wo + 4 + 3, wo + 4 + 4, wo + 4 + 4 + 1, wo + 4 + 4 + 2, wo + 4 + 4 + 3, wo + 4 + 9, wo + 4 + 10, wo + 15 + 1, wo + 15 + 3, wo + 15 + 4, wo + 15 + 4 + 1, wo + 15 + 4 + 2, wo + 15 + 4 + 3, wo + 15 + 9, wo + 15 + 10] rfl rfl rfl k5 ?_
  show RB _ _ _ _ _ [] _ _
  refine r_aload rfl ?_
  refine r_aload rfl ?_
  refine r_get (x := f_this 1) 38 (hn _ _ _ _ _ _ _ _ _ _ _ _ _ _ _ _ _ _ _ _ _ _ _ _ _ _ _ _ _ _ _ _ _ _ _ _ _ _ _) rfl hB.1 (by decide) rfl ?_
  refine r_int ?_
  refine r_iadd ?_
  refine r_int ?_
  refine r_irem (by decide) ?_
  refine r_put (env' := [(wo2, u3.2.1), (wo2 + 1, u3.2.2.1), (wo2 + 1 + 1, u3.2.2.2.1), (wo2 + 4 + 1, u3.2.2.2.2.1), (wo2 + 4 + 3, u3.2.2.2.2.2.1), (wo2 + 4 + 4, u3.2.2.2.2.2.2.1), (wo2 + 4 + 4 + 1, u3.2.2.2.2.2.2.2.1), (wo2 + 4 + 4 + 2, u3.2.2.2.2.2.2.2.2.1), (wo2 + 4 + 4 + 3, u3.2.2.2.2.2.2.2.2.2.1), (wo2 + 4 + 9, u3.2.2.2.2.2.2.2.2.2.2.1), (wo2 + 4 + 10, u3.2.2.2.2.2.2.2.2.2.2.2.1), (wo2 + 15 + 1, u3.2.2.2.2.2.2.2.2.2.2.2.2.1), (wo2 + 15 + 3, u3.2.2.2.2.2.2.2.2.2.2.2.2.2.1), (wo2 + 15 + 4, u3.2.2.2.2.2.2.2.2.2.2.2.2.2.2.1), (wo2 + 15 + 4 + 1, u3.2.2.2.2.2.2.2.2.2.2.2.2.2.2.2.1), (wo2 + 15 + 4 + 2, u3.2.2.2.2.2.2.2.2.2.2.2.2.2.2.2.2.1), (wo2 + 15 + 4 + 3, u3.2.2.2.2.2.2.2.2.2.2.2.2.2.2.2.2.2.1), (wo2 + 15 + 9, u3.2.2.2.2.2.2.2.2.2.2.2.2.2.2.2.2.2.2.1), (wo2 + 15 + 10, u3.2.2.2.2.2.2.2.2.2.2.2.2.2.2.2.2.2.2.2), (wo, f_wld), (wo + 1, f_wld_dia), (wo + 1 + 1, f_wld_dia_meetings), (wo + 4 + 1, f_wld_m0_reg), (wo + 4 + 3, f_wld_m0_memory), (wo + 4 + 4, f_wld_m0_timers), (wo + 4 + 4 + 1, f_wld_m0_timers_process), (wo + 4 + 4 + 2, f_wld_m0_timers_time), (wo + 4 + 4 + 3, f_wld_m0_timers_isBy), (wo + 4 + 9, f_wld_m0_links_0), (wo + 4 + 10, f_wld_m0_links_1), (wo + 15 + 1, f_wld_m1_reg), (wo + 15 + 3, f_wld_m1_memory), (wo + 15 + 4, f_wld_m1_timers), (wo + 15 + 4 + 1, f_wld_m1_timers_process), (wo + 15 + 4 + 2, f_wld_m1_timers_time), (wo + 15 + 4 + 3, f_wld_m1_timers_isBy), (wo + 15 + 9, f_wld_m1_links_0), (wo + 15 + 10, f_wld_m1_links_1), (ho, (upd f_this 1 (((f_this 1) + 1) - ((f_this 1) + 1) / 8 * 8)))]) 38 (hn _ _ _ _ _ _ _ _ _ _ _ _ _ _ _ _ _ _ _ _ _ _ _ _ _ _ _ _ _ _ _ _ _ _ _ _ _ _ _) rfl rfl hB.1 ?_
  refine r_aload rfl ?_
  refine r_aload rfl ?_
  refine r_get (x := f_this 0) 38 (hn _ _ _ _ _ _ _ _ _ _ _ _ _ _ _ _ _ _ _ _ _ _ _ _ _ _ _ _ _ _ _ _ _ _ _ _ _ _ _) rfl hB.1 (by decide) (pk_un (nebq rfl)) ?_
  refine r_int ?_
  refine r_iadd ?_
  refine r_int ?_
  refine r_min rfl (Nat.le_of_ble_eq_true rfl) ?_
  refine r_put (env' := [(wo2, u3.2.1), (wo2 + 1, u3.2.2.1), (wo2 + 1 + 1, u3.2.2.2.1), (wo2 + 4 + 1, u3.2.2.2.2.1), (wo2 + 4 + 3, u3.2.2.2.2.2.1), (wo2 + 4 + 4, u3.2.2.2.2.2.2.1), (wo2 + 4 + 4 + 1, u3.2.2.2.2.2.2.2.1), (wo2 + 4 + 4 + 2, u3.2.2.2.2.2.2.2.2.1), (wo2 + 4 + 4 + 3, u3.2.2.2.2.2.2.2.2.2.1), (wo2 + 4 + 9, u3.2.2.2.2.2.2.2.2.2.2.1), (wo2 + 4 + 10, u3.2.2.2.2.2.2.2.2.2.2.2.1), (wo2 + 15 + 1, u3.2.2.2.2.2.2.2.2.2.2.2.2.1), (wo2 + 15 + 3, u3.2.2.2.2.2.2.2.2.2.2.2.2.2.1), (wo2 + 15 + 4, u3.2.2.2.2.2.2.2.2.2.2.2.2.2.2.1), (wo2 + 15 + 4 + 1, u3.2.2.2.2.2.2.2.2.2.2.2.2.2.2.2.1), (wo2 + 15 + 4 + 2, u3.2.2.2.2.2.2.2.2.2.2.2.2.2.2.2.2.1), (wo2 + 15 + 4 + 3, u3.2.2.2.2.2.2.2.2.2.2.2.2.2.2.2.2.2.1), (wo2 + 15 + 9, u3.2.2.2.2.2.2.2.2.2.2.2.2.2.2.2.2.2.2.1), (wo2 + 15 + 10, u3.2.2.2.2.2.2.2.2.2.2.2.2.2.2.2.2.2.2.2), (wo, f_wld), (wo + 1, f_wld_dia), (wo + 1 + 1, f_wld_dia_meetings), (wo + 4 + 1, f_wld_m0_reg), (wo + 4 + 3, f_wld_m0_memory), (wo + 4 + 4, f_wld_m0_timers), (wo + 4 + 4 + 1, f_wld_m0_timers_process), (wo + 4 + 4 + 2, f_wld_m0_timers_time), (wo + 4 + 4 + 3, f_wld_m0_timers_isBy), (wo + 4 + 9, f_wld_m0_links_0), (wo + 4 + 10, f_wld_m0_links_1), (wo + 15 + 1, f_wld_m1_reg), (wo + 15 + 3, f_wld_m1_memory), (wo + 15 + 4, f_wld_m1_timers), (wo + 15 + 4 + 1, f_wld_m1_timers_process), (wo + 15 + 4 + 2, f_wld_m1_timers_time), (wo + 15 + 4 + 3, f_wld_m1_timers_isBy), (wo + 15 + 9, f_wld_m1_links_0), (wo + 15 + 10, f_wld_m1_links_1), (ho, (upd (upd f_this 1 (((f_this 1) + 1) - ((f_this 1) + 1) / 8 * 8)) 0 (if 8 < ((f_this 0) + 1) then 8 else ((f_this 0) + 1))))]) 38 (hn _ _ _ _ _ _ _ _ _ _ _ _ _ _ _ _ _ _ _ _ _ _ _ _ _ _ _ _ _ _ _ _ _ _ _ _ _ _ _) rfl rfl hB.1 ?_
  exact r_retv rfl (hPQ 0 u3.2.1 u3.2.2.1 u3.2.2.2.1 u3.2.2.2.2.1 u3.2.2.2.2.2.1 u3.2.2.2.2.2.2.1 u3.2.2.2.2.2.2.2.1 u3.2.2.2.2.2.2.2.2.1 u3.2.2.2.2.2.2.2.2.2.1 u3.2.2.2.2.2.2.2.2.2.2.1 u3.2.2.2.2.2.2.2.2.2.2.2.1 u3.2.2.2.2.2.2.2.2.2.2.2.2.1 u3.2.2.2.2.2.2.2.2.2.2.2.2.2.1 u3.2.2.2.2.2.2.2.2.2.2.2.2.2.2.1 u3.2.2.2.2.2.2.2.2.2.2.2.2.2.2.2.1 u3.2.2.2.2.2.2.2.2.2.2.2.2.2.2.2.2.1 u3.2.2.2.2.2.2.2.2.2.2.2.2.2.2.2.2.2.1 u3.2.2.2.2.2.2.2.2.2.2.2.2.2.2.2.2.2.2.1 u3.2.2.2.2.2.2.2.2.2.2.2.2.2.2.2.2.2.2.2 (upd (upd f_this 1 (((f_this 1) + 1) - ((f_this 1) + 1) / 8 * 8)) 0 (if 8 < ((f_this 0) + 1) then 8 else ((f_this 0) + 1))) hP)

def FX1_recall (nx : Int32) (f_wld : mF) (f_wld_dia : mF) (f_wld_dia_meetings : mF) (f_wld_m0_reg : mF) (f_wld_m0_memory : mF) (f_wld_m0_timers : mF) (f_wld_m0_timers_process : mF) (f_wld_m0_timers_time : mF) (f_wld_m0_timers_isBy : mF) (f_wld_m0_links_0 : mF) (f_wld_m0_links_1 : mF) (f_wld_m1_reg : mF) (f_wld_m1_memory : mF) (f_wld_m1_timers : mF) (f_wld_m1_timers_process : mF) (f_wld_m1_timers_time : mF) (f_wld_m1_timers_isBy : mF) (f_wld_m1_links_0 : mF) (f_wld_m1_links_1 : mF) (f_slot : mF) (f_slot_dia : mF) (f_slot_dia_meetings : mF) (f_slot_m0_reg : mF) (f_slot_m0_memory : mF) (f_slot_m0_timers : mF) (f_slot_m0_timers_process : mF) (f_slot_m0_timers_time : mF) (f_slot_m0_timers_isBy : mF) (f_slot_m0_links_0 : mF) (f_slot_m0_links_1 : mF) (f_slot_m1_reg : mF) (f_slot_m1_memory : mF) (f_slot_m1_timers : mF) (f_slot_m1_timers_process : mF) (f_slot_m1_timers_time : mF) (f_slot_m1_timers_isBy : mF) (f_slot_m1_links_0 : mF) (f_slot_m1_links_1 : mF) (f_this : mF) : Int32 × mF × mF × mF × mF × mF × mF × mF × mF × mF × mF × mF × mF × mF × mF × mF × mF × mF × mF × mF × mF :=
  if (f_this 0) = 0 then (((-1), f_wld, f_wld_dia, f_wld_dia_meetings, f_wld_m0_reg, f_wld_m0_memory, f_wld_m0_timers, f_wld_m0_timers_process, f_wld_m0_timers_time, f_wld_m0_timers_isBy, f_wld_m0_links_0, f_wld_m0_links_1, f_wld_m1_reg, f_wld_m1_memory, f_wld_m1_timers, f_wld_m1_timers_process, f_wld_m1_timers_time, f_wld_m1_timers_isBy, f_wld_m1_links_0, f_wld_m1_links_1, f_this)) else (let u4 := FX8_copy f_wld f_wld_dia f_wld_dia_meetings f_wld_m0_reg f_wld_m0_memory f_wld_m0_timers f_wld_m0_timers_process f_wld_m0_timers_time f_wld_m0_timers_isBy f_wld_m0_links_0 f_wld_m0_links_1 f_wld_m1_reg f_wld_m1_memory f_wld_m1_timers f_wld_m1_timers_process f_wld_m1_timers_time f_wld_m1_timers_isBy f_wld_m1_links_0 f_wld_m1_links_1 f_slot f_slot_dia f_slot_dia_meetings f_slot_m0_reg f_slot_m0_memory f_slot_m0_timers f_slot_m0_timers_process f_slot_m0_timers_time f_slot_m0_timers_isBy f_slot_m0_links_0 f_slot_m0_links_1 f_slot_m1_reg f_slot_m1_memory f_slot_m1_timers f_slot_m1_timers_process f_slot_m1_timers_time f_slot_m1_timers_isBy f_slot_m1_links_0 f_slot_m1_links_1; (((f_this 0) - 1), u4.2.1, u4.2.2.1, u4.2.2.2.1, u4.2.2.2.2.1, u4.2.2.2.2.2.1, u4.2.2.2.2.2.2.1, u4.2.2.2.2.2.2.2.1, u4.2.2.2.2.2.2.2.2.1, u4.2.2.2.2.2.2.2.2.2.1, u4.2.2.2.2.2.2.2.2.2.2.1, u4.2.2.2.2.2.2.2.2.2.2.2.1, u4.2.2.2.2.2.2.2.2.2.2.2.2.1, u4.2.2.2.2.2.2.2.2.2.2.2.2.2.1, u4.2.2.2.2.2.2.2.2.2.2.2.2.2.2.1, u4.2.2.2.2.2.2.2.2.2.2.2.2.2.2.2.1, u4.2.2.2.2.2.2.2.2.2.2.2.2.2.2.2.2.1, u4.2.2.2.2.2.2.2.2.2.2.2.2.2.2.2.2.2.1, u4.2.2.2.2.2.2.2.2.2.2.2.2.2.2.2.2.2.2.1, u4.2.2.2.2.2.2.2.2.2.2.2.2.2.2.2.2.2.2.2, (upd (upd f_this 1 ((((f_this 1) + 8) - 1) - (((f_this 1) + 8) - 1) / 8 * 8)) 0 ((f_this 0) - 1))))
def OX1_recall (nx : Int32) (f_wld : mF) (f_wld_dia : mF) (f_wld_dia_meetings : mF) (f_wld_m0_reg : mF) (f_wld_m0_memory : mF) (f_wld_m0_timers : mF) (f_wld_m0_timers_process : mF) (f_wld_m0_timers_time : mF) (f_wld_m0_timers_isBy : mF) (f_wld_m0_links_0 : mF) (f_wld_m0_links_1 : mF) (f_wld_m1_reg : mF) (f_wld_m1_memory : mF) (f_wld_m1_timers : mF) (f_wld_m1_timers_process : mF) (f_wld_m1_timers_time : mF) (f_wld_m1_timers_isBy : mF) (f_wld_m1_links_0 : mF) (f_wld_m1_links_1 : mF) (f_slot : mF) (f_slot_dia : mF) (f_slot_dia_meetings : mF) (f_slot_m0_reg : mF) (f_slot_m0_memory : mF) (f_slot_m0_timers : mF) (f_slot_m0_timers_process : mF) (f_slot_m0_timers_time : mF) (f_slot_m0_timers_isBy : mF) (f_slot_m0_links_0 : mF) (f_slot_m0_links_1 : mF) (f_slot_m1_reg : mF) (f_slot_m1_memory : mF) (f_slot_m1_timers : mF) (f_slot_m1_timers_process : mF) (f_slot_m1_timers_time : mF) (f_slot_m1_timers_isBy : mF) (f_slot_m1_links_0 : mF) (f_slot_m1_links_1 : mF) (f_this : mF) : Prop :=
  ((f_this 0) = 0 → True) ∧ (¬ ((f_this 0) = 0) → (((((f_this 1) + 8) - 1) - (((f_this 1) + 8) - 1) / 8 * 8) = nx ∧ vp_in nx 8 ∧ (OX8_copy f_wld f_wld_dia f_wld_dia_meetings f_wld_m0_reg f_wld_m0_memory f_wld_m0_timers f_wld_m0_timers_process f_wld_m0_timers_time f_wld_m0_timers_isBy f_wld_m0_links_0 f_wld_m0_links_1 f_wld_m1_reg f_wld_m1_memory f_wld_m1_timers f_wld_m1_timers_process f_wld_m1_timers_time f_wld_m1_timers_isBy f_wld_m1_links_0 f_wld_m1_links_1 f_slot f_slot_dia f_slot_dia_meetings f_slot_m0_reg f_slot_m0_memory f_slot_m0_timers f_slot_m0_timers_process f_slot_m0_timers_time f_slot_m0_timers_isBy f_slot_m0_links_0 f_slot_m0_links_1 f_slot_m1_reg f_slot_m1_memory f_slot_m1_timers f_slot_m1_timers_process f_slot_m1_timers_time f_slot_m1_timers_isBy f_slot_m1_links_0 f_slot_m1_links_1)))
set_option maxRecDepth 20000 in
theorem tX1_recall {d : Nat} {B : mB} {v : mV} {w : mX} {Q : Option Int32 → mMH → Prop} {ho wo wo2 : Nat} (hB : isHist B ho) (nx : Int32) (hw : B.2.2 (ho + 1) nx.toNatClampNeg = some wo2) (hW : isWorld B wo) (hW2 : isWorld B wo2) (h1 : wo + 26 ≤ ho) (h2 : ho + 2 ≤ wo2) (f_wld : mF) (f_wld_dia : mF) (f_wld_dia_meetings : mF) (f_wld_m0_reg : mF) (f_wld_m0_memory : mF) (f_wld_m0_timers : mF) (f_wld_m0_timers_process : mF) (f_wld_m0_timers_time : mF) (f_wld_m0_timers_isBy : mF) (f_wld_m0_links_0 : mF) (f_wld_m0_links_1 : mF) (f_wld_m1_reg : mF) (f_wld_m1_memory : mF) (f_wld_m1_timers : mF) (f_wld_m1_timers_process : mF) (f_wld_m1_timers_time : mF) (f_wld_m1_timers_isBy : mF) (f_wld_m1_links_0 : mF) (f_wld_m1_links_1 : mF) (f_slot : mF) (f_slot_dia : mF) (f_slot_dia_meetings : mF) (f_slot_m0_reg : mF) (f_slot_m0_memory : mF) (f_slot_m0_timers : mF) (f_slot_m0_timers_process : mF) (f_slot_m0_timers_time : mF) (f_slot_m0_timers_isBy : mF) (f_slot_m0_links_0 : mF) (f_slot_m0_links_1 : mF) (f_slot_m1_reg : mF) (f_slot_m1_memory : mF) (f_slot_m1_timers : mF) (f_slot_m1_timers_process : mF) (f_slot_m1_timers_time : mF) (f_slot_m1_timers_isBy : mF) (f_slot_m1_links_0 : mF) (f_slot_m1_links_1 : mF) (f_this : mF) (hO : OX1_recall nx f_wld f_wld_dia f_wld_dia_meetings f_wld_m0_reg f_wld_m0_memory f_wld_m0_timers f_wld_m0_timers_process f_wld_m0_timers_time f_wld_m0_timers_isBy f_wld_m0_links_0 f_wld_m0_links_1 f_wld_m1_reg f_wld_m1_memory f_wld_m1_timers f_wld_m1_timers_process f_wld_m1_timers_time f_wld_m1_timers_isBy f_wld_m1_links_0 f_wld_m1_links_1 f_slot f_slot_dia f_slot_dia_meetings f_slot_m0_reg f_slot_m0_memory f_slot_m0_timers f_slot_m0_timers_process f_slot_m0_timers_time f_slot_m0_timers_isBy f_slot_m0_links_0 f_slot_m0_links_1 f_slot_m1_reg f_slot_m1_memory f_slot_m1_timers f_slot_m1_timers_process f_slot_m1_timers_time f_slot_m1_timers_isBy f_slot_m1_links_0 f_slot_m1_links_1 f_this) (hQ : Q (some ((FX1_recall nx f_wld f_wld_dia f_wld_dia_meetings f_wld_m0_reg f_wld_m0_memory f_wld_m0_timers f_wld_m0_timers_process f_wld_m0_timers_time f_wld_m0_timers_isBy f_wld_m0_links_0 f_wld_m0_links_1 f_wld_m1_reg f_wld_m1_memory f_wld_m1_timers f_wld_m1_timers_process f_wld_m1_timers_time f_wld_m1_timers_isBy f_wld_m1_links_0 f_wld_m1_links_1 f_slot f_slot_dia f_slot_dia_meetings f_slot_m0_reg f_slot_m0_memory f_slot_m0_timers f_slot_m0_timers_process f_slot_m0_timers_time f_slot_m0_timers_isBy f_slot_m0_links_0 f_slot_m0_links_1 f_slot_m1_reg f_slot_m1_memory f_slot_m1_timers f_slot_m1_timers_process f_slot_m1_timers_time f_slot_m1_timers_isBy f_slot_m1_links_0 f_slot_m1_links_1 f_this).1)) (mH B (mE v [(wo, (FX1_recall nx f_wld f_wld_dia f_wld_dia_meetings f_wld_m0_reg f_wld_m0_memory f_wld_m0_timers f_wld_m0_timers_process f_wld_m0_timers_time f_wld_m0_timers_isBy f_wld_m0_links_0 f_wld_m0_links_1 f_wld_m1_reg f_wld_m1_memory f_wld_m1_timers f_wld_m1_timers_process f_wld_m1_timers_time f_wld_m1_timers_isBy f_wld_m1_links_0 f_wld_m1_links_1 f_slot f_slot_dia f_slot_dia_meetings f_slot_m0_reg f_slot_m0_memory f_slot_m0_timers f_slot_m0_timers_process f_slot_m0_timers_time f_slot_m0_timers_isBy f_slot_m0_links_0 f_slot_m0_links_1 f_slot_m1_reg f_slot_m1_memory f_slot_m1_timers f_slot_m1_timers_process f_slot_m1_timers_time f_slot_m1_timers_isBy f_slot_m1_links_0 f_slot_m1_links_1 f_this).2.1), (wo + 1, (FX1_recall nx f_wld f_wld_dia f_wld_dia_meetings f_wld_m0_reg f_wld_m0_memory f_wld_m0_timers f_wld_m0_timers_process f_wld_m0_timers_time f_wld_m0_timers_isBy f_wld_m0_links_0 f_wld_m0_links_1 f_wld_m1_reg f_wld_m1_memory f_wld_m1_timers f_wld_m1_timers_process f_wld_m1_timers_time f_wld_m1_timers_isBy f_wld_m1_links_0 f_wld_m1_links_1 f_slot f_slot_dia f_slot_dia_meetings f_slot_m0_reg f_slot_m0_memory f_slot_m0_timers f_slot_m0_timers_process f_slot_m0_timers_time f_slot_m0_timers_isBy f_slot_m0_links_0 f_slot_m0_links_1 f_slot_m1_reg f_slot_m1_memory f_slot_m1_timers f_slot_m1_timers_process f_slot_m1_timers_time f_slot_m1_timers_isBy f_slot_m1_links_0 f_slot_m1_links_1 f_this).2.2.1), (wo + 1 + 1, (FX1_recall nx f_wld f_wld_dia f_wld_dia_meetings f_wld_m0_reg f_wld_m0_memory f_wld_m0_timers f_wld_m0_timers_process f_wld_m0_timers_time f_wld_m0_timers_isBy f_wld_m0_links_0 f_wld_m0_links_1 f_wld_m1_reg f_wld_m1_memory f_wld_m1_timers f_wld_m1_timers_process f_wld_m1_timers_time f_wld_m1_timers_isBy f_wld_m1_links_0 f_wld_m1_links_1 f_slot f_slot_dia f_slot_dia_meetings f_slot_m0_reg f_slot_m0_memory f_slot_m0_timers f_slot_m0_timers_process f_slot_m0_timers_time f_slot_m0_timers_isBy f_slot_m0_links_0 f_slot_m0_links_1 f_slot_m1_reg f_slot_m1_memory f_slot_m1_timers f_slot_m1_timers_process f_slot_m1_timers_time f_slot_m1_timers_isBy f_slot_m1_links_0 f_slot_m1_links_1 f_this).2.2.2.1), (wo + 4 + 1, (FX1_recall nx f_wld f_wld_dia f_wld_dia_meetings f_wld_m0_reg f_wld_m0_memory f_wld_m0_timers f_wld_m0_timers_process f_wld_m0_timers_time f_wld_m0_timers_isBy f_wld_m0_links_0 f_wld_m0_links_1 f_wld_m1_reg f_wld_m1_memory f_wld_m1_timers f_wld_m1_timers_process f_wld_m1_timers_time f_wld_m1_timers_isBy f_wld_m1_links_0 f_wld_m1_links_1 f_slot f_slot_dia f_slot_dia_meetings f_slot_m0_reg f_slot_m0_memory f_slot_m0_timers f_slot_m0_timers_process f_slot_m0_timers_time f_slot_m0_timers_isBy f_slot_m0_links_0 f_slot_m0_links_1 f_slot_m1_reg f_slot_m1_memory f_slot_m1_timers f_slot_m1_timers_process f_slot_m1_timers_time f_slot_m1_timers_isBy f_slot_m1_links_0 f_slot_m1_links_1 f_this).2.2.2.2.1), (wo + 4 + 3, (FX1_recall nx f_wld f_wld_dia f_wld_dia_meetings f_wld_m0_reg f_wld_m0_memory f_wld_m0_timers f_wld_m0_timers_process f_wld_m0_timers_time f_wld_m0_timers_isBy f_wld_m0_links_0 f_wld_m0_links_1 f_wld_m1_reg f_wld_m1_memory f_wld_m1_timers f_wld_m1_timers_process f_wld_m1_timers_time f_wld_m1_timers_isBy f_wld_m1_links_0 f_wld_m1_links_1 f_slot f_slot_dia f_slot_dia_meetings f_slot_m0_reg f_slot_m0_memory f_slot_m0_timers f_slot_m0_timers_process f_slot_m0_timers_time f_slot_m0_timers_isBy f_slot_m0_links_0 f_slot_m0_links_1 f_slot_m1_reg f_slot_m1_memory f_slot_m1_timers f_slot_m1_timers_process f_slot_m1_timers_time f_slot_m1_timers_isBy f_slot_m1_links_0 f_slot_m1_links_1 f_this).2.2.2.2.2.1), (wo + 4 + 4, (FX1_recall nx f_wld f_wld_dia f_wld_dia_meetings f_wld_m0_reg f_wld_m0_memory f_wld_m0_timers f_wld_m0_timers_process f_wld_m0_timers_time f_wld_m0_timers_isBy f_wld_m0_links_0 f_wld_m0_links_1 f_wld_m1_reg f_wld_m1_memory f_wld_m1_timers f_wld_m1_timers_process f_wld_m1_timers_time f_wld_m1_timers_isBy f_wld_m1_links_0 f_wld_m1_links_1 f_slot f_slot_dia f_slot_dia_meetings f_slot_m0_reg f_slot_m0_memory f_slot_m0_timers f_slot_m0_timers_process f_slot_m0_timers_time f_slot_m0_timers_isBy f_slot_m0_links_0 f_slot_m0_links_1 f_slot_m1_reg f_slot_m1_memory f_slot_m1_timers f_slot_m1_timers_process f_slot_m1_timers_time f_slot_m1_timers_isBy f_slot_m1_links_0 f_slot_m1_links_1 f_this).2.2.2.2.2.2.1), (wo + 4 + 4 + 1, (FX1_recall nx f_wld f_wld_dia f_wld_dia_meetings f_wld_m0_reg f_wld_m0_memory f_wld_m0_timers f_wld_m0_timers_process f_wld_m0_timers_time f_wld_m0_timers_isBy f_wld_m0_links_0 f_wld_m0_links_1 f_wld_m1_reg f_wld_m1_memory f_wld_m1_timers f_wld_m1_timers_process f_wld_m1_timers_time f_wld_m1_timers_isBy f_wld_m1_links_0 f_wld_m1_links_1 f_slot f_slot_dia f_slot_dia_meetings f_slot_m0_reg f_slot_m0_memory f_slot_m0_timers f_slot_m0_timers_process f_slot_m0_timers_time f_slot_m0_timers_isBy f_slot_m0_links_0 f_slot_m0_links_1 f_slot_m1_reg f_slot_m1_memory f_slot_m1_timers f_slot_m1_timers_process f_slot_m1_timers_time f_slot_m1_timers_isBy f_slot_m1_links_0 f_slot_m1_links_1 f_this).2.2.2.2.2.2.2.1), (wo + 4 + 4 + 2, (FX1_recall nx f_wld f_wld_dia f_wld_dia_meetings f_wld_m0_reg f_wld_m0_memory f_wld_m0_timers f_wld_m0_timers_process f_wld_m0_timers_time f_wld_m0_timers_isBy f_wld_m0_links_0 f_wld_m0_links_1 f_wld_m1_reg f_wld_m1_memory f_wld_m1_timers f_wld_m1_timers_process f_wld_m1_timers_time f_wld_m1_timers_isBy f_wld_m1_links_0 f_wld_m1_links_1 f_slot f_slot_dia f_slot_dia_meetings f_slot_m0_reg f_slot_m0_memory f_slot_m0_timers f_slot_m0_timers_process f_slot_m0_timers_time f_slot_m0_timers_isBy f_slot_m0_links_0 f_slot_m0_links_1 f_slot_m1_reg f_slot_m1_memory f_slot_m1_timers f_slot_m1_timers_process f_slot_m1_timers_time f_slot_m1_timers_isBy f_slot_m1_links_0 f_slot_m1_links_1 f_this).2.2.2.2.2.2.2.2.1), (wo + 4 + 4 + 3, (FX1_recall nx f_wld f_wld_dia f_wld_dia_meetings f_wld_m0_reg f_wld_m0_memory f_wld_m0_timers f_wld_m0_timers_process f_wld_m0_timers_time f_wld_m0_timers_isBy f_wld_m0_links_0 f_wld_m0_links_1 f_wld_m1_reg f_wld_m1_memory f_wld_m1_timers f_wld_m1_timers_process f_wld_m1_timers_time f_wld_m1_timers_isBy f_wld_m1_links_0 f_wld_m1_links_1 f_slot f_slot_dia f_slot_dia_meetings f_slot_m0_reg f_slot_m0_memory f_slot_m0_timers f_slot_m0_timers_process f_slot_m0_timers_time f_slot_m0_timers_isBy f_slot_m0_links_0 f_slot_m0_links_1 f_slot_m1_reg f_slot_m1_memory f_slot_m1_timers f_slot_m1_timers_process f_slot_m1_timers_time f_slot_m1_timers_isBy f_slot_m1_links_0 f_slot_m1_links_1 f_this).2.2.2.2.2.2.2.2.2.1), (wo + 4 + 9, (FX1_recall nx f_wld f_wld_dia f_wld_dia_meetings f_wld_m0_reg f_wld_m0_memory f_wld_m0_timers f_wld_m0_timers_process f_wld_m0_timers_time f_wld_m0_timers_isBy f_wld_m0_links_0 f_wld_m0_links_1 f_wld_m1_reg f_wld_m1_memory f_wld_m1_timers f_wld_m1_timers_process f_wld_m1_timers_time f_wld_m1_timers_isBy f_wld_m1_links_0 f_wld_m1_links_1 f_slot f_slot_dia f_slot_dia_meetings f_slot_m0_reg f_slot_m0_memory f_slot_m0_timers f_slot_m0_timers_process f_slot_m0_timers_time f_slot_m0_timers_isBy f_slot_m0_links_0 f_slot_m0_links_1 f_slot_m1_reg f_slot_m1_memory f_slot_m1_timers f_slot_m1_timers_process f_slot_m1_timers_time f_slot_m1_timers_isBy f_slot_m1_links_0 f_slot_m1_links_1 f_this).2.2.2.2.2.2.2.2.2.2.1), (wo + 4 + 10, (FX1_recall nx f_wld f_wld_dia f_wld_dia_meetings f_wld_m0_reg f_wld_m0_memory f_wld_m0_timers f_wld_m0_timers_process f_wld_m0_timers_time f_wld_m0_timers_isBy f_wld_m0_links_0 f_wld_m0_links_1 f_wld_m1_reg f_wld_m1_memory f_wld_m1_timers f_wld_m1_timers_process f_wld_m1_timers_time f_wld_m1_timers_isBy f_wld_m1_links_0 f_wld_m1_links_1 f_slot f_slot_dia f_slot_dia_meetings f_slot_m0_reg f_slot_m0_memory f_slot_m0_timers f_slot_m0_timers_process f_slot_m0_timers_time f_slot_m0_timers_isBy f_slot_m0_links_0 f_slot_m0_links_1 f_slot_m1_reg f_slot_m1_memory f_slot_m1_timers f_slot_m1_timers_process f_slot_m1_timers_time f_slot_m1_timers_isBy f_slot_m1_links_0 f_slot_m1_links_1 f_this).2.2.2.2.2.2.2.2.2.2.2.1), (wo + 15 + 1, (FX1_recall nx f_wld f_wld_dia f_wld_dia_meetings f_wld_m0_reg f_wld_m0_memory f_wld_m0_timers f_wld_m0_timers_process f_wld_m0_timers_time f_wld_m0_timers_isBy f_wld_m0_links_0 f_wld_m0_links_1 f_wld_m1_reg f_wld_m1_memory f_wld_m1_timers f_wld_m1_timers_process f_wld_m1_timers_time f_wld_m1_timers_isBy f_wld_m1_links_0 f_wld_m1_links_1 f_slot f_slot_dia f_slot_dia_meetings f_slot_m0_reg f_slot_m0_memory f_slot_m0_timers f_slot_m0_timers_process f_slot_m0_timers_time f_slot_m0_timers_isBy f_slot_m0_links_0 f_slot_m0_links_1 f_slot_m1_reg f_slot_m1_memory f_slot_m1_timers f_slot_m1_timers_process f_slot_m1_timers_time f_slot_m1_timers_isBy f_slot_m1_links_0 f_slot_m1_links_1 f_this).2.2.2.2.2.2.2.2.2.2.2.2.1), (wo + 15 + 3, (FX1_recall nx f_wld f_wld_dia f_wld_dia_meetings f_wld_m0_reg f_wld_m0_memory f_wld_m0_timers f_wld_m0_timers_process f_wld_m0_timers_time f_wld_m0_timers_isBy f_wld_m0_links_0 f_wld_m0_links_1 f_wld_m1_reg f_wld_m1_memory f_wld_m1_timers f_wld_m1_timers_process f_wld_m1_timers_time f_wld_m1_timers_isBy f_wld_m1_links_0 f_wld_m1_links_1 f_slot f_slot_dia f_slot_dia_meetings f_slot_m0_reg f_slot_m0_memory f_slot_m0_timers f_slot_m0_timers_process f_slot_m0_timers_time f_slot_m0_timers_isBy f_slot_m0_links_0 f_slot_m0_links_1 f_slot_m1_reg f_slot_m1_memory f_slot_m1_timers f_slot_m1_timers_process f_slot_m1_timers_time f_slot_m1_timers_isBy f_slot_m1_links_0 f_slot_m1_links_1 f_this).2.2.2.2.2.2.2.2.2.2.2.2.2.1), (wo + 15 + 4, (FX1_recall nx f_wld f_wld_dia f_wld_dia_meetings f_wld_m0_reg f_wld_m0_memory f_wld_m0_timers f_wld_m0_timers_process f_wld_m0_timers_time f_wld_m0_timers_isBy f_wld_m0_links_0 f_wld_m0_links_1 f_wld_m1_reg f_wld_m1_memory f_wld_m1_timers f_wld_m1_timers_process f_wld_m1_timers_time f_wld_m1_timers_isBy f_wld_m1_links_0 f_wld_m1_links_1 f_slot f_slot_dia f_slot_dia_meetings f_slot_m0_reg f_slot_m0_memory f_slot_m0_timers f_slot_m0_timers_process f_slot_m0_timers_time f_slot_m0_timers_isBy f_slot_m0_links_0 f_slot_m0_links_1 f_slot_m1_reg f_slot_m1_memory f_slot_m1_timers f_slot_m1_timers_process f_slot_m1_timers_time f_slot_m1_timers_isBy f_slot_m1_links_0 f_slot_m1_links_1 f_this).2.2.2.2.2.2.2.2.2.2.2.2.2.2.1), (wo + 15 + 4 + 1, (FX1_recall nx f_wld f_wld_dia f_wld_dia_meetings f_wld_m0_reg f_wld_m0_memory f_wld_m0_timers f_wld_m0_timers_process f_wld_m0_timers_time f_wld_m0_timers_isBy f_wld_m0_links_0 f_wld_m0_links_1 f_wld_m1_reg f_wld_m1_memory f_wld_m1_timers f_wld_m1_timers_process f_wld_m1_timers_time f_wld_m1_timers_isBy f_wld_m1_links_0 f_wld_m1_links_1 f_slot f_slot_dia f_slot_dia_meetings f_slot_m0_reg f_slot_m0_memory f_slot_m0_timers f_slot_m0_timers_process f_slot_m0_timers_time f_slot_m0_timers_isBy f_slot_m0_links_0 f_slot_m0_links_1 f_slot_m1_reg f_slot_m1_memory f_slot_m1_timers f_slot_m1_timers_process f_slot_m1_timers_time f_slot_m1_timers_isBy f_slot_m1_links_0 f_slot_m1_links_1 f_this).2.2.2.2.2.2.2.2.2.2.2.2.2.2.2.1), (wo + 15 + 4 + 2, (FX1_recall nx f_wld f_wld_dia f_wld_dia_meetings f_wld_m0_reg f_wld_m0_memory f_wld_m0_timers f_wld_m0_timers_process f_wld_m0_timers_time f_wld_m0_timers_isBy f_wld_m0_links_0 f_wld_m0_links_1 f_wld_m1_reg f_wld_m1_memory f_wld_m1_timers f_wld_m1_timers_process f_wld_m1_timers_time f_wld_m1_timers_isBy f_wld_m1_links_0 f_wld_m1_links_1 f_slot f_slot_dia f_slot_dia_meetings f_slot_m0_reg f_slot_m0_memory f_slot_m0_timers f_slot_m0_timers_process f_slot_m0_timers_time f_slot_m0_timers_isBy f_slot_m0_links_0 f_slot_m0_links_1 f_slot_m1_reg f_slot_m1_memory f_slot_m1_timers f_slot_m1_timers_process f_slot_m1_timers_time f_slot_m1_timers_isBy f_slot_m1_links_0 f_slot_m1_links_1 f_this).2.2.2.2.2.2.2.2.2.2.2.2.2.2.2.2.1), (wo + 15 + 4 + 3, (FX1_recall nx f_wld f_wld_dia f_wld_dia_meetings f_wld_m0_reg f_wld_m0_memory f_wld_m0_timers f_wld_m0_timers_process f_wld_m0_timers_time f_wld_m0_timers_isBy f_wld_m0_links_0 f_wld_m0_links_1 f_wld_m1_reg f_wld_m1_memory f_wld_m1_timers f_wld_m1_timers_process f_wld_m1_timers_time f_wld_m1_timers_isBy f_wld_m1_links_0 f_wld_m1_links_1 f_slot f_slot_dia f_slot_dia_meetings f_slot_m0_reg f_slot_m0_memory f_slot_m0_timers f_slot_m0_timers_process f_slot_m0_timers_time f_slot_m0_timers_isBy f_slot_m0_links_0 f_slot_m0_links_1 f_slot_m1_reg f_slot_m1_memory f_slot_m1_timers f_slot_m1_timers_process f_slot_m1_timers_time f_slot_m1_timers_isBy f_slot_m1_links_0 f_slot_m1_links_1 f_this).2.2.2.2.2.2.2.2.2.2.2.2.2.2.2.2.2.1), (wo + 15 + 9, (FX1_recall nx f_wld f_wld_dia f_wld_dia_meetings f_wld_m0_reg f_wld_m0_memory f_wld_m0_timers f_wld_m0_timers_process f_wld_m0_timers_time f_wld_m0_timers_isBy f_wld_m0_links_0 f_wld_m0_links_1 f_wld_m1_reg f_wld_m1_memory f_wld_m1_timers f_wld_m1_timers_process f_wld_m1_timers_time f_wld_m1_timers_isBy f_wld_m1_links_0 f_wld_m1_links_1 f_slot f_slot_dia f_slot_dia_meetings f_slot_m0_reg f_slot_m0_memory f_slot_m0_timers f_slot_m0_timers_process f_slot_m0_timers_time f_slot_m0_timers_isBy f_slot_m0_links_0 f_slot_m0_links_1 f_slot_m1_reg f_slot_m1_memory f_slot_m1_timers f_slot_m1_timers_process f_slot_m1_timers_time f_slot_m1_timers_isBy f_slot_m1_links_0 f_slot_m1_links_1 f_this).2.2.2.2.2.2.2.2.2.2.2.2.2.2.2.2.2.2.1), (wo + 15 + 10, (FX1_recall nx f_wld f_wld_dia f_wld_dia_meetings f_wld_m0_reg f_wld_m0_memory f_wld_m0_timers f_wld_m0_timers_process f_wld_m0_timers_time f_wld_m0_timers_isBy f_wld_m0_links_0 f_wld_m0_links_1 f_wld_m1_reg f_wld_m1_memory f_wld_m1_timers f_wld_m1_timers_process f_wld_m1_timers_time f_wld_m1_timers_isBy f_wld_m1_links_0 f_wld_m1_links_1 f_slot f_slot_dia f_slot_dia_meetings f_slot_m0_reg f_slot_m0_memory f_slot_m0_timers f_slot_m0_timers_process f_slot_m0_timers_time f_slot_m0_timers_isBy f_slot_m0_links_0 f_slot_m0_links_1 f_slot_m1_reg f_slot_m1_memory f_slot_m1_timers f_slot_m1_timers_process f_slot_m1_timers_time f_slot_m1_timers_isBy f_slot_m1_links_0 f_slot_m1_links_1 f_this).2.2.2.2.2.2.2.2.2.2.2.2.2.2.2.2.2.2.2.1), (wo2, f_slot), (wo2 + 1, f_slot_dia), (wo2 + 1 + 1, f_slot_dia_meetings), (wo2 + 4 + 1, f_slot_m0_reg), (wo2 + 4 + 3, f_slot_m0_memory), (wo2 + 4 + 4, f_slot_m0_timers), (wo2 + 4 + 4 + 1, f_slot_m0_timers_process), (wo2 + 4 + 4 + 2, f_slot_m0_timers_time), (wo2 + 4 + 4 + 3, f_slot_m0_timers_isBy), (wo2 + 4 + 9, f_slot_m0_links_0), (wo2 + 4 + 10, f_slot_m0_links_1), (wo2 + 15 + 1, f_slot_m1_reg), (wo2 + 15 + 3, f_slot_m1_memory), (wo2 + 15 + 4, f_slot_m1_timers), (wo2 + 15 + 4 + 1, f_slot_m1_timers_process), (wo2 + 15 + 4 + 2, f_slot_m1_timers_time), (wo2 + 15 + 4 + 3, f_slot_m1_timers_isBy), (wo2 + 15 + 9, f_slot_m1_links_0), (wo2 + 15 + 10, f_slot_m1_links_1), (ho, (FX1_recall nx f_wld f_wld_dia f_wld_dia_meetings f_wld_m0_reg f_wld_m0_memory f_wld_m0_timers f_wld_m0_timers_process f_wld_m0_timers_time f_wld_m0_timers_isBy f_wld_m0_links_0 f_wld_m0_links_1 f_wld_m1_reg f_wld_m1_memory f_wld_m1_timers f_wld_m1_timers_process f_wld_m1_timers_time f_wld_m1_timers_isBy f_wld_m1_links_0 f_wld_m1_links_1 f_slot f_slot_dia f_slot_dia_meetings f_slot_m0_reg f_slot_m0_memory f_slot_m0_timers f_slot_m0_timers_process f_slot_m0_timers_time f_slot_m0_timers_isBy f_slot_m0_links_0 f_slot_m0_links_1 f_slot_m1_reg f_slot_m1_memory f_slot_m1_timers f_slot_m1_timers_process f_slot_m1_timers_time f_slot_m1_timers_isBy f_slot_m1_links_0 f_slot_m1_links_1 f_this).2.2.2.2.2.2.2.2.2.2.2.2.2.2.2.2.2.2.2.2)]) w)) : CQ (d + 5) 8 [.ref ho, .ref wo] (mH B (mE v [(wo, f_wld), (wo + 1, f_wld_dia), (wo + 1 + 1, f_wld_dia_meetings), (wo + 4 + 1, f_wld_m0_reg), (wo + 4 + 3, f_wld_m0_memory), (wo + 4 + 4, f_wld_m0_timers), (wo + 4 + 4 + 1, f_wld_m0_timers_process), (wo + 4 + 4 + 2, f_wld_m0_timers_time), (wo + 4 + 4 + 3, f_wld_m0_timers_isBy), (wo + 4 + 9, f_wld_m0_links_0), (wo + 4 + 10, f_wld_m0_links_1), (wo + 15 + 1, f_wld_m1_reg), (wo + 15 + 3, f_wld_m1_memory), (wo + 15 + 4, f_wld_m1_timers), (wo + 15 + 4 + 1, f_wld_m1_timers_process), (wo + 15 + 4 + 2, f_wld_m1_timers_time), (wo + 15 + 4 + 3, f_wld_m1_timers_isBy), (wo + 15 + 9, f_wld_m1_links_0), (wo + 15 + 10, f_wld_m1_links_1), (wo2, f_slot), (wo2 + 1, f_slot_dia), (wo2 + 1 + 1, f_slot_dia_meetings), (wo2 + 4 + 1, f_slot_m0_reg), (wo2 + 4 + 3, f_slot_m0_memory), (wo2 + 4 + 4, f_slot_m0_timers), (wo2 + 4 + 4 + 1, f_slot_m0_timers_process), (wo2 + 4 + 4 + 2, f_slot_m0_timers_time), (wo2 + 4 + 4 + 3, f_slot_m0_timers_isBy), (wo2 + 4 + 9, f_slot_m0_links_0), (wo2 + 4 + 10, f_slot_m0_links_1), (wo2 + 15 + 1, f_slot_m1_reg), (wo2 + 15 + 3, f_slot_m1_memory), (wo2 + 15 + 4, f_slot_m1_timers), (wo2 + 15 + 4 + 1, f_slot_m1_timers_process), (wo2 + 15 + 4 + 2, f_slot_m1_timers_time), (wo2 + 15 + 4 + 3, f_slot_m1_timers_isBy), (wo2 + 15 + 9, f_slot_m1_links_0), (wo2 + 15 + 10, f_slot_m1_links_1), (ho, f_this)]) w) Q := by
  have hn : ∀ (f_wld : mF) (f_wld_dia : mF) (f_wld_dia_meetings : mF) (f_wld_m0_reg : mF) (f_wld_m0_memory : mF) (f_wld_m0_timers : mF) (f_wld_m0_timers_process : mF) (f_wld_m0_timers_time : mF) (f_wld_m0_timers_isBy : mF) (f_wld_m0_links_0 : mF) (f_wld_m0_links_1 : mF) (f_wld_m1_reg : mF) (f_wld_m1_memory : mF) (f_wld_m1_timers : mF) (f_wld_m1_timers_process : mF) (f_wld_m1_timers_time : mF) (f_wld_m1_timers_isBy : mF) (f_wld_m1_links_0 : mF) (f_wld_m1_links_1 : mF) (f_slot : mF) (f_slot_dia : mF) (f_slot_dia_meetings : mF) (f_slot_m0_reg : mF) (f_slot_m0_memory : mF) (f_slot_m0_timers : mF) (f_slot_m0_timers_process : mF) (f_slot_m0_timers_time : mF) (f_slot_m0_timers_isBy : mF) (f_slot_m0_links_0 : mF) (f_slot_m0_links_1 : mF) (f_slot_m1_reg : mF) (f_slot_m1_memory : mF) (f_slot_m1_timers : mF) (f_slot_m1_timers_process : mF) (f_slot_m1_timers_time : mF) (f_slot_m1_timers_isBy : mF) (f_slot_m1_links_0 : mF) (f_slot_m1_links_1 : mF) (f_this : mF), mNd [(wo, f_wld), (wo + 1, f_wld_dia), (wo + 1 + 1, f_wld_dia_meetings), (wo + 4 + 1, f_wld_m0_reg), (wo + 4 + 3, f_wld_m0_memory), (wo + 4 + 4, f_wld_m0_timers), (wo + 4 + 4 + 1, f_wld_m0_timers_process), (wo + 4 + 4 + 2, f_wld_m0_timers_time), (wo + 4 + 4 + 3, f_wld_m0_timers_isBy), (wo + 4 + 9, f_wld_m0_links_0), (wo + 4 + 10, f_wld_m0_links_1), (wo + 15 + 1, f_wld_m1_reg), (wo + 15 + 3, f_wld_m1_memory), (wo + 15 + 4, f_wld_m1_timers), (wo + 15 + 4 + 1, f_wld_m1_timers_process), (wo + 15 + 4 + 2, f_wld_m1_timers_time), (wo + 15 + 4 + 3, f_wld_m1_timers_isBy), (wo + 15 + 9, f_wld_m1_links_0), (wo + 15 + 10, f_wld_m1_links_1), (wo2, f_slot), (wo2 + 1, f_slot_dia), (wo2 + 1 + 1, f_slot_dia_meetings), (wo2 + 4 + 1, f_slot_m0_reg), (wo2 + 4 + 3, f_slot_m0_memory), (wo2 + 4 + 4, f_slot_m0_timers), (wo2 + 4 + 4 + 1, f_slot_m0_timers_process), (wo2 + 4 + 4 + 2, f_slot_m0_timers_time), (wo2 + 4 + 4 + 3, f_slot_m0_timers_isBy), (wo2 + 4 + 9, f_slot_m0_links_0), (wo2 + 4 + 10, f_slot_m0_links_1), (wo2 + 15 + 1, f_slot_m1_reg), (wo2 + 15 + 3, f_slot_m1_memory), (wo2 + 15 + 4, f_slot_m1_timers), (wo2 + 15 + 4 + 1, f_slot_m1_timers_process), (wo2 + 15 + 4 + 2, f_slot_m1_timers_time), (wo2 + 15 + 4 + 3, f_slot_m1_timers_isBy), (wo2 + 15 + 9, f_slot_m1_links_0), (wo2 + 15 + 10, f_slot_m1_links_1), (ho, f_this)] := fun _ _ _ _ _ _ _ _ _ _ _ _ _ _ _ _ _ _ _ _ _ _ _ _ _ _ _ _ _ _ _ _ _ _ _ _ _ _ _ => ((ndG_cons wo 26 [0, 1, 2, 5, 7, 8, 9, 10, 11, 13, 14, 16, 18, 19, 20, 21, 22, 24, 25] [(wo2, 26, [0, 1, 2, 5, 7, 8, 9, 10, 11, 13, 14, 16, 18, 19, 20, 21, 22, 24, 25]), (ho, 1, [0])] (by decide) (List.forall_mem_cons.mpr ⟨(show wo + 26 ≤ wo2 ∨ wo2 + 26 ≤ wo by omega), (List.forall_mem_cons.mpr ⟨(show wo + 26 ≤ ho ∨ ho + 1 ≤ wo by omega), (fun _ h => absurd h List.not_mem_nil)⟩)⟩) (ndG_cons wo2 26 [0, 1, 2, 5, 7, 8, 9, 10, 11, 13, 14, 16, 18, 19, 20, 21, 22, 24, 25] [(ho, 1, [0])] (by decide) (List.forall_mem_cons.mpr ⟨(show wo2 + 26 ≤ ho ∨ ho + 1 ≤ wo2 by omega), (fun _ h => absurd h List.not_mem_nil)⟩) (ndG_cons ho 1 [0] [] (by decide) (fun _ h => absurd h List.not_mem_nil) ndG_nil)))).1
  obtain ⟨P, hPQ, hP⟩ : ∃ P : Int32 × mF × mF × mF × mF × mF × mF × mF × mF × mF × mF × mF × mF × mF × mF × mF × mF × mF × mF × mF × mF → Prop, (∀ (q : Int32) (q0 : mF) (q1 : mF) (q2 : mF) (q3 : mF) (q4 : mF) (q5 : mF) (q6 : mF) (q7 : mF) (q8 : mF) (q9 : mF) (q10 : mF) (q11 : mF) (q12 : mF) (q13 : mF) (q14 : mF) (q15 : mF) (q16 : mF) (q17 : mF) (q18 : mF) (q19 : mF), P (q, q0, q1, q2, q3, q4, q5, q6, q7, q8, q9, q10, q11, q12, q13, q14, q15, q16, q17, q18, q19) → Q (some q) (mH B (mE v [(wo, q0), (wo + 1, q1), (wo + 1 + 1, q2), (wo + 4 + 1, q3), (wo + 4 + 3, q4), (wo + 4 + 4, q5), (wo + 4 + 4 + 1, q6), (wo + 4 + 4 + 2, q7), (wo + 4 + 4 + 3, q8), (wo + 4 + 9, q9), (wo + 4 + 10, q10), (wo + 15 + 1, q11), (wo + 15 + 3, q12), (wo + 15 + 4, q13), (wo + 15 + 4 + 1, q14), (wo + 15 + 4 + 2, q15), (wo + 15 + 4 + 3, q16), (wo + 15 + 9, q17), (wo + 15 + 10, q18), (wo2, f_slot), (wo2 + 1, f_slot_dia), (wo2 + 1 + 1, f_slot_dia_meetings), (wo2 + 4 + 1, f_slot_m0_reg), (wo2 + 4 + 3, f_slot_m0_memory), (wo2 + 4 + 4, f_slot_m0_timers), (wo2 + 4 + 4 + 1, f_slot_m0_timers_process), (wo2 + 4 + 4 + 2, f_slot_m0_timers_time), (wo2 + 4 + 4 + 3, f_slot_m0_timers_isBy), (wo2 + 4 + 9, f_slot_m0_links_0), (wo2 + 4 + 10, f_slot_m0_links_1), (wo2 + 15 + 1, f_slot_m1_reg), (wo2 + 15 + 3, f_slot_m1_memory), (wo2 + 15 + 4, f_slot_m1_timers), (wo2 + 15 + 4 + 1, f_slot_m1_timers_process), (wo2 + 15 + 4 + 2, f_slot_m1_timers_time), (wo2 + 15 + 4 + 3, f_slot_m1_timers_isBy), (wo2 + 15 + 9, f_slot_m1_links_0), (wo2 + 15 + 10, f_slot_m1_links_1), (ho, q19)]) w)) ∧ P (FX1_recall nx f_wld f_wld_dia f_wld_dia_meetings f_wld_m0_reg f_wld_m0_memory f_wld_m0_timers f_wld_m0_timers_process f_wld_m0_timers_time f_wld_m0_timers_isBy f_wld_m0_links_0 f_wld_m0_links_1 f_wld_m1_reg f_wld_m1_memory f_wld_m1_timers f_wld_m1_timers_process f_wld_m1_timers_time f_wld_m1_timers_isBy f_wld_m1_links_0 f_wld_m1_links_1 f_slot f_slot_dia f_slot_dia_meetings f_slot_m0_reg f_slot_m0_memory f_slot_m0_timers f_slot_m0_timers_process f_slot_m0_timers_time f_slot_m0_timers_isBy f_slot_m0_links_0 f_slot_m0_links_1 f_slot_m1_reg f_slot_m1_memory f_slot_m1_timers f_slot_m1_timers_process f_slot_m1_timers_time f_slot_m1_timers_isBy f_slot_m1_links_0 f_slot_m1_links_1 f_this) := ⟨fun res => Q (some res.1) (mH B (mE v [(wo, res.2.1), (wo + 1, res.2.2.1), (wo + 1 + 1, res.2.2.2.1), (wo + 4 + 1, res.2.2.2.2.1), (wo + 4 + 3, res.2.2.2.2.2.1), (wo + 4 + 4, res.2.2.2.2.2.2.1), (wo + 4 + 4 + 1, res.2.2.2.2.2.2.2.1), (wo + 4 + 4 + 2, res.2.2.2.2.2.2.2.2.1), (wo + 4 + 4 + 3, res.2.2.2.2.2.2.2.2.2.1), (wo + 4 + 9, res.2.2.2.2.2.2.2.2.2.2.1), (wo + 4 + 10, res.2.2.2.2.2.2.2.2.2.2.2.1), (wo + 15 + 1, res.2.2.2.2.2.2.2.2.2.2.2.2.1), (wo + 15 + 3, res.2.2.2.2.2.2.2.2.2.2.2.2.2.1), (wo + 15 + 4, res.2.2.2.2.2.2.2.2.2.2.2.2.2.2.1), (wo + 15 + 4 + 1, res.2.2.2.2.2.2.2.2.2.2.2.2.2.2.2.1), (wo + 15 + 4 + 2, res.2.2.2.2.2.2.2.2.2.2.2.2.2.2.2.2.1), (wo + 15 + 4 + 3, res.2.2.2.2.2.2.2.2.2.2.2.2.2.2.2.2.2.1), (wo + 15 + 9, res.2.2.2.2.2.2.2.2.2.2.2.2.2.2.2.2.2.2.1), (wo + 15 + 10, res.2.2.2.2.2.2.2.2.2.2.2.2.2.2.2.2.2.2.2.1), (wo2, f_slot), (wo2 + 1, f_slot_dia), (wo2 + 1 + 1, f_slot_dia_meetings), (wo2 + 4 + 1, f_slot_m0_reg), (wo2 + 4 + 3, f_slot_m0_memory), (wo2 + 4 + 4, f_slot_m0_timers), (wo2 + 4 + 4 + 1, f_slot_m0_timers_process), (wo2 + 4 + 4 + 2, f_slot_m0_timers_time), (wo2 + 4 + 4 + 3, f_slot_m0_timers_isBy), (wo2 + 4 + 9, f_slot_m0_links_0), (wo2 + 4 + 10, f_slot_m0_links_1), (wo2 + 15 + 1, f_slot_m1_reg), (wo2 + 15 + 3, f_slot_m1_memory), (wo2 + 15 + 4, f_slot_m1_timers), (wo2 + 15 + 4 + 1, f_slot_m1_timers_process), (wo2 + 15 + 4 + 2, f_slot_m1_timers_time), (wo2 + 15 + 4 + 3, f_slot_m1_timers_isBy), (wo2 + 15 + 9, f_slot_m1_links_0), (wo2 + 15 + 10, f_slot_m1_links_1), (ho, res.2.2.2.2.2.2.2.2.2.2.2.2.2.2.2.2.2.2.2.2)]) w), fun _ _ _ _ _ _ _ _ _ _ _ _ _ _ _ _ _ _ _ _ _ h => h, hQ⟩
  refine r_begin mt_8 (by intro a ha; simp only [List.mem_cons, List.not_mem_nil, or_false] at ha; rcases ha with rfl | rfl <;> rfl) (Nat.le_of_ble_eq_true rfl) ?_
  rw [FX1_recall] at hP
  rw [OX1_recall] at hO
  show RB _ _ _ _ [some (.ref ho), some (.ref wo)] [] _ _
  refine r_aload rfl ?_
  refine r_get (x := f_this 0) 38 (hn _ _ _ _ _ _ _ _ _ _ _ _ _ _ _ _ _ _ _ _ _ _ _ _ _ _ _ _ _ _ _ _ _ _ _ _ _ _ _) rfl hB.1 (by decide) rfl ?_
  refine r_if1 (fun c1 : (f_this 0) = 0 => ?_) (fun c1 : ¬ ((f_this 0) = 0) => ?_)
  · rw [if_pos c1] at hP
    have hO := hO.1 c1
    refine r_int ?_
    exact r_ret rfl rfl (hPQ (-1) f_wld f_wld_dia f_wld_dia_meetings f_wld_m0_reg f_wld_m0_memory f_wld_m0_timers f_wld_m0_timers_process f_wld_m0_timers_time f_wld_m0_timers_isBy f_wld_m0_links_0 f_wld_m0_links_1 f_wld_m1_reg f_wld_m1_memory f_wld_m1_timers f_wld_m1_timers_process f_wld_m1_timers_time f_wld_m1_timers_isBy f_wld_m1_links_0 f_wld_m1_links_1 f_this hP)
  · rw [if_neg c1] at hP
    have hO := hO.2 c1
    refine r_aload rfl ?_
    refine r_aload rfl ?_
    refine r_get (x := f_this 1) 38 (hn _ _ _ _ _ _ _ _ _ _ _ _ _ _ _ _ _ _ _ _ _ _ _ _ _ _ _ _ _ _ _ _ _ _ _ _ _ _ _) rfl hB.1 (by decide) rfl ?_
    refine r_int ?_
    refine r_iadd ?_
    refine r_int ?_
    refine r_isub ?_
    refine r_int ?_
    refine r_irem (by decide) ?_
    refine r_put (env' := [(wo, f_wld), (wo + 1, f_wld_dia), (wo + 1 + 1, f_wld_dia_meetings), (wo + 4 + 1, f_wld_m0_reg), (wo + 4 + 3, f_wld_m0_memory), (wo + 4 + 4, f_wld_m0_timers), (wo + 4 + 4 + 1, f_wld_m0_timers_process), (wo + 4 + 4 + 2, f_wld_m0_timers_time), (wo + 4 + 4 + 3, f_wld_m0_timers_isBy), (wo + 4 + 9, f_wld_m0_links_0), (wo + 4 + 10, f_wld_m0_links_1), (wo + 15 + 1, f_wld_m1_reg), (wo + 15 + 3, f_wld_m1_memory), (wo + 15 + 4, f_wld_m1_timers), (wo + 15 + 4 + 1, f_wld_m1_timers_process), (wo + 15 + 4 + 2, f_wld_m1_timers_time), (wo + 15 + 4 + 3, f_wld_m1_timers_isBy), (wo + 15 + 9, f_wld_m1_links_0), (wo + 15 + 10, f_wld_m1_links_1), (wo2, f_slot), (wo2 + 1, f_slot_dia), (wo2 + 1 + 1, f_slot_dia_meetings), (wo2 + 4 + 1, f_slot_m0_reg), (wo2 + 4 + 3, f_slot_m0_memory), (wo2 + 4 + 4, f_slot_m0_timers), (wo2 + 4 + 4 + 1, f_slot_m0_timers_process), (wo2 + 4 + 4 + 2, f_slot_m0_timers_time), (wo2 + 4 + 4 + 3, f_slot_m0_timers_isBy), (wo2 + 4 + 9, f_slot_m0_links_0), (wo2 + 4 + 10, f_slot_m0_links_1), (wo2 + 15 + 1, f_slot_m1_reg), (wo2 + 15 + 3, f_slot_m1_memory), (wo2 + 15 + 4, f_slot_m1_timers), (wo2 + 15 + 4 + 1, f_slot_m1_timers_process), (wo2 + 15 + 4 + 2, f_slot_m1_timers_time), (wo2 + 15 + 4 + 3, f_slot_m1_timers_isBy), (wo2 + 15 + 9, f_slot_m1_links_0), (wo2 + 15 + 10, f_slot_m1_links_1), (ho, (upd f_this 1 ((((f_this 1) + 8) - 1) - (((f_this 1) + 8) - 1) / 8 * 8)))]) 38 (hn _ _ _ _ _ _ _ _ _ _ _ _ _ _ _ _ _ _ _ _ _ _ _ _ _ _ _ _ _ _ _ _ _ _ _ _ _ _ _) rfl rfl hB.1 ?_
    refine r_aload rfl ?_
    refine r_aload rfl ?_
    refine r_getr (q := ho + 1) hB.1 hB.2.2 ?_
    refine r_aload rfl ?_
    refine r_get (x := ((((f_this 1) + 8) - 1) - (((f_this 1) + 8) - 1) / 8 * 8)) 38 (hn _ _ _ _ _ _ _ _ _ _ _ _ _ _ _ _ _ _ _ _ _ _ _ _ _ _ _ _ _ _ _ _ _ _ _ _ _ _ _) rfl hB.1 (by decide) pk_us ?_
    obtain ⟨h2, h3, hO⟩ := hO
    refine r_aldr (q := wo2) hB.2.1 (Or.inr (Or.inr rfl)) (by rw [h2]; exact h3) (by rw [h2]; exact hw) ?_
    have h5 := hO
    have k6 := fun (Q' : Option Int32 → mMH → Prop) hq => tX8_copy (d := d + 0) (B := B) (v := mE v [(wo, f_wld), (wo + 1, f_wld_dia), (wo + 1 + 1, f_wld_dia_meetings), (wo + 4 + 1, f_wld_m0_reg), (wo + 4 + 3, f_wld_m0_memory), (wo + 4 + 4, f_wld_m0_timers), (wo + 4 + 4 + 1, f_wld_m0_timers_process), (wo + 4 + 4 + 2, f_wld_m0_timers_time), (wo + 4 + 4 + 3, f_wld_m0_timers_isBy), (wo + 4 + 9, f_wld_m0_links_0), (wo + 4 + 10, f_wld_m0_links_1), (wo + 15 + 1, f_wld_m1_reg), (wo + 15 + 3, f_wld_m1_memory), (wo + 15 + 4, f_wld_m1_timers), (wo + 15 + 4 + 1, f_wld_m1_timers_process), (wo + 15 + 4 + 2, f_wld_m1_timers_time), (wo + 15 + 4 + 3, f_wld_m1_timers_isBy), (wo + 15 + 9, f_wld_m1_links_0), (wo + 15 + 10, f_wld_m1_links_1), (wo2, f_slot), (wo2 + 1, f_slot_dia), (wo2 + 1 + 1, f_slot_dia_meetings), (wo2 + 4 + 1, f_slot_m0_reg), (wo2 + 4 + 3, f_slot_m0_memory), (wo2 + 4 + 4, f_slot_m0_timers), (wo2 + 4 + 4 + 1, f_slot_m0_timers_process), (wo2 + 4 + 4 + 2, f_slot_m0_timers_time), (wo2 + 4 + 4 + 3, f_slot_m0_timers_isBy), (wo2 + 4 + 9, f_slot_m0_links_0), (wo2 + 4 + 10, f_slot_m0_links_1), (wo2 + 15 + 1, f_slot_m1_reg), (wo2 + 15 + 3, f_slot_m1_memory), (wo2 + 15 + 4, f_slot_m1_timers), (wo2 + 15 + 4 + 1, f_slot_m1_timers_process), (wo2 + 15 + 4 + 2, f_slot_m1_timers_time), (wo2 + 15 + 4 + 3, f_slot_m1_timers_isBy), (wo2 + 15 + 9, f_slot_m1_links_0), (wo2 + 15 + 10, f_slot_m1_links_1), (ho, (upd f_this 1 ((((f_this 1) + 8) - 1) - (((f_this 1) + 8) - 1) / 8 * 8)))]) (w := w) (Q := Q') hW hW2 (by omega) f_wld f_wld_dia f_wld_dia_meetings f_wld_m0_reg f_wld_m0_memory f_wld_m0_timers f_wld_m0_timers_process f_wld_m0_timers_time f_wld_m0_timers_isBy f_wld_m0_links_0 f_wld_m0_links_1 f_wld_m1_reg f_wld_m1_memory f_wld_m1_timers f_wld_m1_timers_process f_wld_m1_timers_time f_wld_m1_timers_isBy f_wld_m1_links_0 f_wld_m1_links_1 f_slot f_slot_dia f_slot_dia_meetings f_slot_m0_reg f_slot_m0_memory f_slot_m0_timers f_slot_m0_timers_process f_slot_m0_timers_time f_slot_m0_timers_isBy f_slot_m0_links_0 f_slot_m0_links_1 f_slot_m1_reg f_slot_m1_memory f_slot_m1_timers f_slot_m1_timers_process f_slot_m1_timers_time f_slot_m1_timers_isBy f_slot_m1_links_0 f_slot_m1_links_1 h5 hq
    generalize hg_u4 : FX8_copy f_wld f_wld_dia f_wld_dia_meetings f_wld_m0_reg f_wld_m0_memory f_wld_m0_timers f_wld_m0_timers_process f_wld_m0_timers_time f_wld_m0_timers_isBy f_wld_m0_links_0 f_wld_m0_links_1 f_wld_m1_reg f_wld_m1_memory f_wld_m1_timers f_wld_m1_timers_process f_wld_m1_timers_time f_wld_m1_timers_isBy f_wld_m1_links_0 f_wld_m1_links_1 f_slot f_slot_dia f_slot_dia_meetings f_slot_m0_reg f_slot_m0_memory f_slot_m0_timers f_slot_m0_timers_process f_slot_m0_timers_time f_slot_m0_timers_isBy f_slot_m0_links_0 f_slot_m0_links_1 f_slot_m1_reg f_slot_m1_memory f_slot_m1_timers f_slot_m1_timers_process f_slot_m1_timers_time f_slot_m1_timers_isBy f_slot_m1_links_0 f_slot_m1_links_1 = u4 at k6 hP
    try dsimp only at hP
    refine r_callM (st := []) (o := wo) (as := [.ref wo2]) (envc := [(wo, f_wld), (wo + 1, f_wld_dia), (wo + 1 + 1, f_wld_dia_meetings), (wo + 4 + 1, f_wld_m0_reg), (wo + 4 + 3, f_wld_m0_memory), (wo + 4 + 4, f_wld_m0_timers), (wo + 4 + 4 + 1, f_wld_m0_timers_process), (wo + 4 + 4 + 2, f_wld_m0_timers_time), (wo + 4 + 4 + 3, f_wld_m0_timers_isBy), (wo + 4 + 9, f_wld_m0_links_0), (wo + 4 + 10, f_wld_m0_links_1), (wo + 15 + 1, f_wld_m1_reg), (wo + 15 + 3, f_wld_m1_memory), (wo + 15 + 4, f_wld_m1_timers), (wo + 15 + 4 + 1, f_wld_m1_timers_process), (wo + 15 + 4 + 2, f_wld_m1_timers_time), (wo + 15 + 4 + 3, f_wld_m1_timers_isBy), (wo + 15 + 9, f_wld_m1_links_0), (wo + 15 + 10, f_wld_m1_links_1), (wo2, f_slot), (wo2 + 1, f_slot_dia), (wo2 + 1 + 1, f_slot_dia_meetings), (wo2 + 4 + 1, f_slot_m0_reg), (wo2 + 4 + 3, f_slot_m0_memory), (wo2 + 4 + 4, f_slot_m0_timers), (wo2 + 4 + 4 + 1, f_slot_m0_timers_process), (wo2 + 4 + 4 + 2, f_slot_m0_timers_time), (wo2 + 4 + 4 + 3, f_slot_m0_timers_isBy), (wo2 + 4 + 9, f_slot_m0_links_0), (wo2 + 4 + 10, f_slot_m0_links_1), (wo2 + 15 + 1, f_slot_m1_reg), (wo2 + 15 + 3, f_slot_m1_memory), (wo2 + 15 + 4, f_slot_m1_timers), (wo2 + 15 + 4 + 1, f_slot_m1_timers_process), (wo2 + 15 + 4 + 2, f_slot_m1_timers_time), (wo2 + 15 + 4 + 3, f_slot_m1_timers_isBy), (wo2 + 15 + 9, f_slot_m1_links_0), (wo2 + 15 + 10, f_slot_m1_links_1)]) (envc' := [(wo, u4.2.1), (wo + 1, u4.2.2.1), (wo + 1 + 1, u4.2.2.2.1), (wo + 4 + 1, u4.2.2.2.2.1), (wo + 4 + 3, u4.2.2.2.2.2.1), (wo + 4 + 4, u4.2.2.2.2.2.2.1), (wo + 4 + 4 + 1, u4.2.2.2.2.2.2.2.1), (wo + 4 + 4 + 2, u4.2.2.2.2.2.2.2.2.1), (wo + 4 + 4 + 3, u4.2.2.2.2.2.2.2.2.2.1), (wo + 4 + 9, u4.2.2.2.2.2.2.2.2.2.2.1), (wo + 4 + 10, u4.2.2.2.2.2.2.2.2.2.2.2.1), (wo + 15 + 1, u4.2.2.2.2.2.2.2.2.2.2.2.2.1), (wo + 15 + 3, u4.2.2.2.2.2.2.2.2.2.2.2.2.2.1), (wo + 15 + 4, u4.2.2.2.2.2.2.2.2.2.2.2.2.2.2.1), (wo + 15 + 4 + 1, u4.2.2.2.2.2.2.2.2.2.2.2.2.2.2.2.1), (wo + 15 + 4 + 2, u4.2.2.2.2.2.2.2.2.2.2.2.2.2.2.2.2.1), (wo + 15 + 4 + 3, u4.2.2.2.2.2.2.2.2.2.2.2.2.2.2.2.2.2.1), (wo + 15 + 9, u4.2.2.2.2.2.2.2.2.2.2.2.2.2.2.2.2.2.2.1), (wo + 15 + 10, u4.2.2.2.2.2.2.2.2.2.2.2.2.2.2.2.2.2.2.2), (wo2, f_slot), (wo2 + 1, f_slot_dia), (wo2 + 1 + 1, f_slot_dia_meetings), (wo2 + 4 + 1, f_slot_m0_reg), (wo2 + 4 + 3, f_slot_m0_memory), (wo2 + 4 + 4, f_slot_m0_timers), (wo2 + 4 + 4 + 1, f_slot_m0_timers_process), (wo2 + 4 + 4 + 2, f_slot_m0_timers_time), (wo2 + 4 + 4 + 3, f_slot_m0_timers_isBy), (wo2 + 4 + 9, f_slot_m0_links_0), (wo2 + 4 + 10, f_slot_m0_links_1), (wo2 + 15 + 1, f_slot_m1_reg), (wo2 + 15 + 3, f_slot_m1_memory), (wo2 + 15 + 4, f_slot_m1_timers), (wo2 + 15 + 4 + 1, f_slot_m1_timers_process), (wo2 + 15 + 4 + 2, f_slot_m1_timers_time), (wo2 + 15 + 4 + 3, f_slot_m1_timers_isBy), (wo2 + 15 + 9, f_slot_m1_links_0), (wo2 + 15 + 10, f_slot_m1_links_1)]) (env' := [(wo, u4.2.1), (wo + 1, u4.2.2.1), (wo + 1 + 1, u4.2.2.2.1), (wo + 4 + 1, u4.2.2.2.2.1), (wo + 4 + 3, u4.2.2.2.2.2.1), (wo + 4 + 4, u4.2.2.2.2.2.2.1), (wo + 4 + 4 + 1, u4.2.2.2.2.2.2.2.1), (wo + 4 + 4 + 2, u4.2.2.2.2.2.2.2.2.1), (wo + 4 + 4 + 3, u4.2.2.2.2.2.2.2.2.2.1), (wo + 4 + 9, u4.2.2.2.2.2.2.2.2.2.2.1), (wo + 4 + 10, u4.2.2.2.2.2.2.2.2.2.2.2.1), (wo + 15 + 1, u4.2.2.2.2.2.2.2.2.2.2.2.2.1), (wo + 15 + 3, u4.2.2.2.2.2.2.2.2.2.2.2.2.2.1), (wo + 15 + 4, u4.2.2.2.2.2.2.2.2.2.2.2.2.2.2.1), (wo + 15 + 4 + 1, u4.2.2.2.2.2.2.2.2.2.2.2.2.2.2.2.1), (wo + 15 + 4 + 2, u4.2.2.2.2.2.2.2.2.2.2.2.2.2.2.2.2.1), (wo + 15 + 4 + 3, u4.2.2.2.2.2.2.2.2.2.2.2.2.2.2.2.2.2.1), (wo + 15 + 9, u4.2.2.2.2.2.2.2.2.2.2.2.2.2.2.2.2.2.2.1), (wo + 15 + 10, u4.2.2.2.2.2.2.2.2.2.2.2.2.2.2.2.2.2.2.2), (wo2, f_slot), (wo2 + 1, f_slot_dia), (wo2 + 1 + 1, f_slot_dia_meetings), (wo2 + 4 + 1, f_slot_m0_reg), (wo2 + 4 + 3, f_slot_m0_memory), (wo2 + 4 + 4, f_slot_m0_timers), (wo2 + 4 + 4 + 1, f_slot_m0_timers_process), (wo2 + 4 + 4 + 2, f_slot_m0_timers_time), (wo2 + 4 + 4 + 3, f_slot_m0_timers_isBy), (wo2 + 4 + 9, f_slot_m0_links_0), (wo2 + 4 + 10, f_slot_m0_links_1), (wo2 + 15 + 1, f_slot_m1_reg), (wo2 + 15 + 3, f_slot_m1_memory), (wo2 + 15 + 4, f_slot_m1_timers), (wo2 + 15 + 4 + 1, f_slot_m1_timers_process), (wo2 + 15 + 4 + 2, f_slot_m1_timers_time), (wo2 + 15 + 4 + 3, f_slot_m1_timers_isBy), (wo2 + 15 + 9, f_slot_m1_links_0), (wo2 + 15 + 10, f_slot_m1_links_1), (ho, (upd f_this 1 ((((f_this 1) + 8) - 1) - (((f_this 1) + 8) - 1) / 8 * 8)))]) (rv := none) [true, true, true, true, true, true, true, true, true, true, true, true, true, true, true, true, true, true, true, true, true, true, true, true, true, true, true, true, true, true, true, true, true, true, true, true, true, true, false] (hn _ _ _ _ _ _ _ _ _ _ _ _ _ _ _ _ _ _ _ _ _ _ _ _ _ _ _ _ _ _ _ _ _ _ _ _ _ _ _) rfl rfl (Nat.le_of_ble_eq_true rfl) hW.1 rfl [wo, wo + 1, wo + 1 + 1, wo + 4 + 1, wo + 4 + 3, wo + 4 + 4, wo + 4 + 4 + 1, wo + 4 + 4 + 2, wo + 4 + 4 + 3, wo + 4 + 9, wo + 4 + 10, wo + 15 + 1, wo + 15 + 3, wo + 15 + 4, wo + 15 + 4 + 1, wo + 15 + 4 + 2, wo + 15 + 4 + 3, wo + 15 + 9, wo + 15 + 10, wo2, wo2 + 1, wo2 + 1 + 1, wo2 + 4 + 1, wo2 + 4 + 3, wo2 + 4 + 4, wo2 + 4 + 4 + 1, wo2 + 4 + 4 + 2, wo2 + 4 + 4 + 3, wo2 + 4 + 9, wo2 + 4 + 10, wo2 + 15 + 1, wo2 + 15 + 3, wo2 + 15 + 4, wo2 + 15 + 4 + 1, wo2 + 15 + 4 + 2, wo2 + 15 + 4 + 3, wo2 + 15 + 9, wo2 + 15 + 10] rfl rfl rfl k6 ?_
    show RB _ _ _ _ _ [] _ _
    refine r_aload rfl ?_
    refine r_dup rfl ?_
    refine r_get (x := f_this 0) 38 (hn _ _ _ _ _ _ _ _ _ _ _ _ _ _ _ _ _ _ _ _ _ _ _ _ _ _ _ _ _ _ _ _ _ _ _ _ _ _ _) rfl hB.1 (by decide) (pk_un (nebq rfl)) ?_
    refine r_int ?_
    refine r_isub ?_
    refine r_put (env' := [(wo, u4.2.1), (wo + 1, u4.2.2.1), (wo + 1 + 1, u4.2.2.2.1), (wo + 4 + 1, u4.2.2.2.2.1), (wo + 4 + 3, u4.2.2.2.2.2.1), (wo + 4 + 4, u4.2.2.2.2.2.2.1), (wo + 4 + 4 + 1, u4.2.2.2.2.2.2.2.1), (wo + 4 + 4 + 2, u4.2.2.2.2.2.2.2.2.1), (wo + 4 + 4 + 3, u4.2.2.2.2.2.2.2.2.2.1), (wo + 4 + 9, u4.2.2.2.2.2.2.2.2.2.2.1), (wo + 4 + 10, u4.2.2.2.2.2.2.2.2.2.2.2.1), (wo + 15 + 1, u4.2.2.2.2.2.2.2.2.2.2.2.2.1), (wo + 15 + 3, u4.2.2.2.2.2.2.2.2.2.2.2.2.2.1), (wo + 15 + 4, u4.2.2.2.2.2.2.2.2.2.2.2.2.2.2.1), (wo + 15 + 4 + 1, u4.2.2.2.2.2.2.2.2.2.2.2.2.2.2.2.1), (wo + 15 + 4 + 2, u4.2.2.2.2.2.2.2.2.2.2.2.2.2.2.2.2.1), (wo + 15 + 4 + 3, u4.2.2.2.2.2.2.2.2.2.2.2.2.2.2.2.2.2.1), (wo + 15 + 9, u4.2.2.2.2.2.2.2.2.2.2.2.2.2.2.2.2.2.2.1), (wo + 15 + 10, u4.2.2.2.2.2.2.2.2.2.2.2.2.2.2.2.2.2.2.2), (wo2, f_slot), (wo2 + 1, f_slot_dia), (wo2 + 1 + 1, f_slot_dia_meetings), (wo2 + 4 + 1, f_slot_m0_reg), (wo2 + 4 + 3, f_slot_m0_memory), (wo2 + 4 + 4, f_slot_m0_timers), (wo2 + 4 + 4 + 1, f_slot_m0_timers_process), (wo2 + 4 + 4 + 2, f_slot_m0_timers_time), (wo2 + 4 + 4 + 3, f_slot_m0_timers_isBy), (wo2 + 4 + 9, f_slot_m0_links_0), (wo2 + 4 + 10, f_slot_m0_links_1), (wo2 + 15 + 1, f_slot_m1_reg), (wo2 + 15 + 3, f_slot_m1_memory), (wo2 + 15 + 4, f_slot_m1_timers), (wo2 + 15 + 4 + 1, f_slot_m1_timers_process), (wo2 + 15 + 4 + 2, f_slot_m1_timers_time), (wo2 + 15 + 4 + 3, f_slot_m1_timers_isBy), (wo2 + 15 + 9, f_slot_m1_links_0), (wo2 + 15 + 10, f_slot_m1_links_1), (ho, (upd (upd f_this 1 ((((f_this 1) + 8) - 1) - (((f_this 1) + 8) - 1) / 8 * 8)) 0 ((f_this 0) - 1)))]) 38 (hn _ _ _ _ _ _ _ _ _ _ _ _ _ _ _ _ _ _ _ _ _ _ _ _ _ _ _ _ _ _ _ _ _ _ _ _ _ _ _) rfl rfl hB.1 ?_
    refine r_aload rfl ?_
    refine r_get (x := ((f_this 0) - 1)) 38 (hn _ _ _ _ _ _ _ _ _ _ _ _ _ _ _ _ _ _ _ _ _ _ _ _ _ _ _ _ _ _ _ _ _ _ _ _ _ _ _) rfl hB.1 (by decide) pk_us ?_
    exact r_ret rfl rfl (hPQ ((f_this 0) - 1) u4.2.1 u4.2.2.1 u4.2.2.2.1 u4.2.2.2.2.1 u4.2.2.2.2.2.1 u4.2.2.2.2.2.2.1 u4.2.2.2.2.2.2.2.1 u4.2.2.2.2.2.2.2.2.1 u4.2.2.2.2.2.2.2.2.2.1 u4.2.2.2.2.2.2.2.2.2.2.1 u4.2.2.2.2.2.2.2.2.2.2.2.1 u4.2.2.2.2.2.2.2.2.2.2.2.2.1 u4.2.2.2.2.2.2.2.2.2.2.2.2.2.1 u4.2.2.2.2.2.2.2.2.2.2.2.2.2.2.1 u4.2.2.2.2.2.2.2.2.2.2.2.2.2.2.2.1 u4.2.2.2.2.2.2.2.2.2.2.2.2.2.2.2.2.1 u4.2.2.2.2.2.2.2.2.2.2.2.2.2.2.2.2.2.1 u4.2.2.2.2.2.2.2.2.2.2.2.2.2.2.2.2.2.2.1 u4.2.2.2.2.2.2.2.2.2.2.2.2.2.2.2.2.2.2.2 (upd (upd f_this 1 ((((f_this 1) + 8) - 1) - (((f_this 1) + 8) - 1) / 8 * 8)) 0 ((f_this 0) - 1)) hP)
