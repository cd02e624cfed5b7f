/-! PURE: what a turn does to the links of its machine (GENERATED, wip/gen/p/52.py) -/
def LK (l l' : mF) : Prop := l' 7 = l 7 ∧ (l' 0 = l 0 ∨ l 0 = -1)
theorem LK_r {l : mF} : LK l l := ⟨rfl, Or.inl rfl⟩
theorem lk_ite {α : Type} {c : Prop} [Decidable c] {a b : α} {Q : α → Prop} (h1 : Q a) (h2 : Q b) : Q (if c then a else b) := by
  split
  · exact h1
  · exact h2
def QLa (l0 l1 : mF) (t : Int32 × mF × mF × mF × mF × mF × mF × mF × mF × mF × mF) : Prop := LK l0 (t).2.2.2.2.2.2.2.1 ∧ LK l1 (t).2.2.2.2.2.2.2.2.1
def QLb (l0 l1 : mF) (t : Int32 × mF × mF × mF × mF) : Prop := LK l0 (t).2.2.2.1 ∧ LK l1 (t).2.2.2.2
def QLc (l0 l1 : mF) (t : Int32 × mF × mF × mF × mF × mF × mF × mF × mF) : Prop := LK l0 (t).2.2.2.2.2.2.2.1 ∧ LK l1 (t).2.2.2.2.2.2.2.2
def QLd (l0 l1 : mF) (t : Int32 × mF × mF × mF × mF × mF × mF × mF × mF × mF × mF × mF) : Prop := LK l0 (t).2.2.2.2.2.2.2.2.1 ∧ LK l1 (t).2.2.2.2.2.2.2.2.2.1
def QLe (l0 l1 : mF) (t : Int32 × mF × mF × mF × mF × mF × mF × mF × mF × mF × mF × mF × mF) : Prop := LK l0 (t).2.2.2.2.2.2.2.2.2.1 ∧ LK l1 (t).2.2.2.2.2.2.2.2.2.2.1
section LKS
variable {x1 x2 x3 x4 : Int32} {this reg regA mem tz tp tt tb l0 l1 dia mt prg op num : mF}
theorem lk_use : LK l0 (FX3_useLink x1 x2 x3 x4 reg mem l0 l1).2.2.2.1 ∧ LK l1 (FX3_useLink x1 x2 x3 x4 reg mem l0 l1).2.2.2.2 := by
  unfold FX3_useLink
  dsimp only
  repeat' split
  all_goals first
    | exact ⟨LK_r, LK_r⟩
    | contradiction
    | exact ⟨⟨rfl, Or.inl rfl⟩, LK_r⟩
    | exact ⟨LK_r, ⟨rfl, Or.inl rfl⟩⟩
    | exact ⟨⟨rfl, Or.inr (by assumption)⟩, LK_r⟩
    | exact ⟨LK_r, ⟨rfl, Or.inr (by assumption)⟩⟩
theorem lk_enl : LK l0 (FX3_enableLink reg mem l0).2.2 := by
  unfold FX3_enableLink
  dsimp only
  split
  · exact ⟨rfl, Or.inl rfl⟩
  · exact LK_r
theorem lk_comm : QLa l0 l1 (FX3_communicate x1 this reg mem tz tp tt tb l0 l1 dia mt) := by
  unfold FX3_communicate
  dsimp only
  repeat' refine lk_ite ?_ ?_
  all_goals first
    | exact ⟨LK_r, LK_r⟩
    | exact lk_use
theorem lk_enableChannel : QLb l0 l1 (FX3_enableChannel reg mem l0 l1) := by
  unfold FX3_enableChannel
  dsimp only
  repeat' refine lk_ite ?_ ?_
  all_goals first
    | exact ⟨LK_r, LK_r⟩
    | exact ⟨lk_enl, LK_r⟩
    | exact ⟨LK_r, lk_enl⟩
theorem lk_disableChannel : QLb l0 l1 (FX3_disableChannel reg mem l0 l1) := by
  unfold FX3_disableChannel
  dsimp only
  repeat' refine lk_ite ?_ ?_
  all_goals first
    | exact ⟨LK_r, LK_r⟩
    | exact ⟨⟨rfl, Or.inl rfl⟩, LK_r⟩
    | exact ⟨LK_r, ⟨rfl, Or.inl rfl⟩⟩
theorem lk_guards : QLc l0 l1 (FX3_performOnGuards x1 reg mem tz tp tt tb l0 l1) := by
  unfold FX3_performOnGuards
  dsimp only
  repeat' refine lk_ite ?_ ?_
  all_goals first
    | exact ⟨LK_r, LK_r⟩
    | exact lk_enableChannel
    | exact lk_disableChannel
theorem lk_perform : QLd l0 l1 (FX3_perform x2 this reg mem tz tp tt tb l0 l1 dia mt prg op num) := by
  unfold FX3_perform
  dsimp only
  repeat' refine lk_ite ?_ ?_
  all_goals first
    | exact ⟨LK_r, LK_r⟩
    | exact lk_comm
    | exact lk_guards
theorem lk_passq : QLe l0 l1 (FX3_pass x2 this reg regA mem tz tp tt tb l0 l1 dia mt prg op num) := by
  unfold FX3_pass
  dsimp only
  refine lk_ite (lk_ite ⟨LK_r, LK_r⟩ (lk_ite ⟨LK_r, LK_r⟩ ?_)) ⟨LK_r, LK_r⟩
  have h : QLd l0 l1 (FX3_perform x2 (upd this 7 2) (FX3_chooseWhoRuns reg mem).2 mem tz tp tt tb l0 l1 dia mt prg op num) := lk_perform
  revert h
  generalize FX3_perform x2 (upd this 7 2) (FX3_chooseWhoRuns reg mem).2 mem tz tp tt tb l0 l1 dia mt prg op num = P
  intro h
  exact lk_ite h h
theorem lk_pass : LK l0 (FX3_pass x2 this reg regA mem tz tp tt tb l0 l1 dia mt prg op num).2.2.2.2.2.2.2.2.2.1 ∧ LK l1 (FX3_pass x2 this reg regA mem tz tp tt tb l0 l1 dia mt prg op num).2.2.2.2.2.2.2.2.2.2.1 := lk_passq
end LKS
