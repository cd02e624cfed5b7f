/-! PURE: the class's join is one tree for all of its 16 shapes (GENERATED, wip/gen/p/49.py) -/
def tJ (W : Nat → mF) : Int32 × mF × mF × mF × mF × mF × mF × mF × mF × mF × mF × mF × mF × mF × mF × mF × mF × mF × mF := (0, W 1, W 2, W 4, W 6, W 7, W 8, W 9, W 10, W 11, W 12, W 14, W 16, W 17, W 18, W 19, W 20, W 21, W 22)
def jTail (ms ml : Int32) (s r O N : Nat) (W : Nat → mF) : Int32 × mF × mF × mF × mF × mF × mF × mF × mF × mF × mF × mF × mF × mF × mF × mF × mF × mF × mF :=
  let c := FX2_canReceive (W N); if c = 0 then tJ W else (if jEmp W r N O 2 = 0 then tJ (jDone ms ml (W N 4) (jEmp W r N) s O) else tJ (jEmp W r N))
def jHead (ms ml : Int32) (s r O N : Nat) (W : Nat → mF) : Int32 × mF × mF × mF × mF × mF × mF × mF × mF × mF × mF × mF × mF × mF × mF × mF × mF × mF × mF :=
  let c := FX2_hasToSend (W O); if c = 0 then jTail ms ml s r O N W else (if W N 7 = 0 then jTail ms ml s r O N (jFill (jOut W O) r N (W (6 + 10 * s) (W O 1).toNatClampNeg)) else jTail ms ml s r O N W)
def OjTail (x ms ml : Int32) (s r O N : Nat) (W : Nat → mF) : Prop :=
  let c := FX2_canReceive (W N); (c = 0 → True) ∧ (¬ (c = 0) → (OX3_emptyBuffer (W (4 + 10 * r)) (W (6 + 10 * r)) (W N) ∧ ((jEmp W r N O 2 = 0 → (vp_in x 4 ∧ (vp_in x 4 ∧ (OX0_note ms ml (jEmp W r N O 0) (W N 4) (jEmp W r N O 3) (jEmp W r N 1) (jEmp W r N 2) ∧ OX3_schedule (jEmp W r N O 0) (jEmp W r N (4 + 10 * s)) (jEmp W r N (6 + 10 * s)))))) ∧ (¬ (jEmp W r N O 2 = 0) → True))))
def OjHead (x ms ml : Int32) (s r O N : Nat) (W : Nat → mF) : Prop :=
  let c := FX2_hasToSend (W O); (c = 0 → OjTail x ms ml s r O N W) ∧ (¬ (c = 0) → ((W N 7 = 0 → (vp_in (W O 1) 96 ∧ (OX3_fillBuffer (W (6 + 10 * s) (W O 1).toNatClampNeg) (jOut W O (4 + 10 * r)) (jOut W O (6 + 10 * r)) (jOut W O (7 + 10 * r)) (jOut W O (8 + 10 * r)) (jOut W O (9 + 10 * r)) (jOut W O (10 + 10 * r)) (jOut W O N) ∧ OjTail x ms ml s r O N (jFill (jOut W O) r N (W (6 + 10 * s) (W O 1).toNatClampNeg))))) ∧ (¬ (W N 7 = 0) → OjTail x ms ml s r O N W)))
def jJ (ms ml : Int32) (s r O N : Nat) (W : Nat → mF) : Int32 × mF × mF × mF × mF × mF × mF × mF × mF × mF × mF × mF × mF × mF × mF × mF × mF × mF × mF :=
  if FX3_isHalted (W (4 + 10 * s)) = 0 then (if FX3_isHalted (W (4 + 10 * r)) = 0 then jHead ms ml s r O N W else tJ W) else tJ W
def OjJ (x ms ml : Int32) (s r O N : Nat) (W : Nat → mF) : Prop := FX3_isHalted (W (4 + 10 * s)) = 0 → FX3_isHalted (W (4 + 10 * r)) = 0 → OjHead x ms ml s r O N W
section JNS
variable {x : Int32} {W : Nat → mF} {sndr slnk rcvr rlnk : mF}
set_option maxRecDepth 20000 in
theorem f_join_0000 (e1 : sndr x.toNatClampNeg = 0) (e2 : slnk x.toNatClampNeg = 0) (e3 : rcvr x.toNatClampNeg = 0) (e4 : rlnk x.toNatClampNeg = 0) : FX8_join x (W 1) (W 2) (W 4) (W 6) (W 7) (W 8) (W 9) (W 10) (W 11) (W 12) (W 14) (W 16) (W 17) (W 18) (W 19) (W 20) (W 21) (W 22) sndr slnk rcvr rlnk = jJ (sndr x.toNatClampNeg) (slnk x.toNatClampNeg) 0 0 11 11 W := by
  unfold FX8_join
  refine (if_pos e1).trans ((if_pos e3).trans ?_)
  by_cases a : FX3_isHalted (W 4) = 0
  · by_cases b : FX3_isHalted (W 4) = 0
    · refine ((if_pos a).trans ((if_pos b).trans ((if_pos e2).trans ((if_pos e4).trans ?_)))).trans ((if_pos a).trans (if_pos b)).symm
      rfl
    · exact ((if_pos a).trans (if_neg b)).trans ((if_pos a).trans (if_neg b)).symm
  · exact (if_neg a).trans (if_neg a).symm
set_option maxRecDepth 20000 in
theorem o_join_0000 (hv : vp_in x 4) (v1 : vp_in (sndr x.toNatClampNeg) 2) (v2 : vp_in (slnk x.toNatClampNeg) 2) (v3 : vp_in (rcvr x.toNatClampNeg) 2) (v4 : vp_in (rlnk x.toNatClampNeg) 2) (e1 : sndr x.toNatClampNeg = 0) (e2 : slnk x.toNatClampNeg = 0) (e3 : rcvr x.toNatClampNeg = 0) (e4 : rlnk x.toNatClampNeg = 0) (h : OjJ x (sndr x.toNatClampNeg) (slnk x.toNatClampNeg) 0 0 11 11 W) : OX8_join x (W 1) (W 2) (W 4) (W 6) (W 7) (W 8) (W 9) (W 10) (W 11) (W 12) (W 14) (W 16) (W 17) (W 18) (W 19) (W 20) (W 21) (W 22) sndr slnk rcvr rlnk := by
  unfold OX8_join
  exact ⟨hv, v1, fun _ => ⟨hv, v3, fun _ => ⟨fun a => ⟨fun b => ⟨hv, v2, fun _ => ⟨hv, v4, fun _ => h a b, fun q => absurd e4 q⟩, fun q => absurd e2 q⟩, fun _ => trivial⟩, fun _ => trivial⟩, fun q => absurd e3 q⟩, fun q => absurd e1 q⟩
set_option maxRecDepth 20000 in
theorem f_join_0001 (e1 : sndr x.toNatClampNeg = 0) (e2 : slnk x.toNatClampNeg = 0) (e3 : rcvr x.toNatClampNeg = 0) (e4 : ¬ rlnk x.toNatClampNeg = 0) : FX8_join x (W 1) (W 2) (W 4) (W 6) (W 7) (W 8) (W 9) (W 10) (W 11) (W 12) (W 14) (W 16) (W 17) (W 18) (W 19) (W 20) (W 21) (W 22) sndr slnk rcvr rlnk = jJ (sndr x.toNatClampNeg) (slnk x.toNatClampNeg) 0 0 11 12 W := by
  unfold FX8_join
  refine (if_pos e1).trans ((if_pos e3).trans ?_)
  by_cases a : FX3_isHalted (W 4) = 0
  · by_cases b : FX3_isHalted (W 4) = 0
    · refine ((if_pos a).trans ((if_pos b).trans ((if_pos e2).trans ((if_neg e4).trans ?_)))).trans ((if_pos a).trans (if_pos b)).symm
      rfl
    · exact ((if_pos a).trans (if_neg b)).trans ((if_pos a).trans (if_neg b)).symm
  · exact (if_neg a).trans (if_neg a).symm
set_option maxRecDepth 20000 in
theorem o_join_0001 (hv : vp_in x 4) (v1 : vp_in (sndr x.toNatClampNeg) 2) (v2 : vp_in (slnk x.toNatClampNeg) 2) (v3 : vp_in (rcvr x.toNatClampNeg) 2) (v4 : vp_in (rlnk x.toNatClampNeg) 2) (e1 : sndr x.toNatClampNeg = 0) (e2 : slnk x.toNatClampNeg = 0) (e3 : rcvr x.toNatClampNeg = 0) (e4 : ¬ rlnk x.toNatClampNeg = 0) (h : OjJ x (sndr x.toNatClampNeg) (slnk x.toNatClampNeg) 0 0 11 12 W) : OX8_join x (W 1) (W 2) (W 4) (W 6) (W 7) (W 8) (W 9) (W 10) (W 11) (W 12) (W 14) (W 16) (W 17) (W 18) (W 19) (W 20) (W 21) (W 22) sndr slnk rcvr rlnk := by
  unfold OX8_join
  exact ⟨hv, v1, fun _ => ⟨hv, v3, fun _ => ⟨fun a => ⟨fun b => ⟨hv, v2, fun _ => ⟨hv, v4, fun q => absurd q e4, fun _ => h a b⟩, fun q => absurd e2 q⟩, fun _ => trivial⟩, fun _ => trivial⟩, fun q => absurd e3 q⟩, fun q => absurd e1 q⟩
set_option maxRecDepth 20000 in
theorem f_join_0010 (e1 : sndr x.toNatClampNeg = 0) (e2 : slnk x.toNatClampNeg = 0) (e3 : ¬ rcvr x.toNatClampNeg = 0) (e4 : rlnk x.toNatClampNeg = 0) : FX8_join x (W 1) (W 2) (W 4) (W 6) (W 7) (W 8) (W 9) (W 10) (W 11) (W 12) (W 14) (W 16) (W 17) (W 18) (W 19) (W 20) (W 21) (W 22) sndr slnk rcvr rlnk = jJ (sndr x.toNatClampNeg) (slnk x.toNatClampNeg) 0 1 11 21 W := by
  unfold FX8_join
  refine (if_pos e1).trans ((if_neg e3).trans ?_)
  by_cases a : FX3_isHalted (W 4) = 0
  · by_cases b : FX3_isHalted (W 14) = 0
    · refine ((if_pos a).trans ((if_pos b).trans ((if_pos e2).trans ((if_pos e4).trans ?_)))).trans ((if_pos a).trans (if_pos b)).symm
      rfl
    · exact ((if_pos a).trans (if_neg b)).trans ((if_pos a).trans (if_neg b)).symm
  · exact (if_neg a).trans (if_neg a).symm
set_option maxRecDepth 20000 in
theorem o_join_0010 (hv : vp_in x 4) (v1 : vp_in (sndr x.toNatClampNeg) 2) (v2 : vp_in (slnk x.toNatClampNeg) 2) (v3 : vp_in (rcvr x.toNatClampNeg) 2) (v4 : vp_in (rlnk x.toNatClampNeg) 2) (e1 : sndr x.toNatClampNeg = 0) (e2 : slnk x.toNatClampNeg = 0) (e3 : ¬ rcvr x.toNatClampNeg = 0) (e4 : rlnk x.toNatClampNeg = 0) (h : OjJ x (sndr x.toNatClampNeg) (slnk x.toNatClampNeg) 0 1 11 21 W) : OX8_join x (W 1) (W 2) (W 4) (W 6) (W 7) (W 8) (W 9) (W 10) (W 11) (W 12) (W 14) (W 16) (W 17) (W 18) (W 19) (W 20) (W 21) (W 22) sndr slnk rcvr rlnk := by
  unfold OX8_join
  exact ⟨hv, v1, fun _ => ⟨hv, v3, fun q => absurd q e3, fun _ => ⟨fun a => ⟨fun b => ⟨hv, v2, fun _ => ⟨hv, v4, fun _ => h a b, fun q => absurd e4 q⟩, fun q => absurd e2 q⟩, fun _ => trivial⟩, fun _ => trivial⟩⟩, fun q => absurd e1 q⟩
set_option maxRecDepth 20000 in
theorem f_join_0011 (e1 : sndr x.toNatClampNeg = 0) (e2 : slnk x.toNatClampNeg = 0) (e3 : ¬ rcvr x.toNatClampNeg = 0) (e4 : ¬ rlnk x.toNatClampNeg = 0) : FX8_join x (W 1) (W 2) (W 4) (W 6) (W 7) (W 8) (W 9) (W 10) (W 11) (W 12) (W 14) (W 16) (W 17) (W 18) (W 19) (W 20) (W 21) (W 22) sndr slnk rcvr rlnk = jJ (sndr x.toNatClampNeg) (slnk x.toNatClampNeg) 0 1 11 22 W := by
  unfold FX8_join
  refine (if_pos e1).trans ((if_neg e3).trans ?_)
  by_cases a : FX3_isHalted (W 4) = 0
  · by_cases b : FX3_isHalted (W 14) = 0
    · refine ((if_pos a).trans ((if_pos b).trans ((if_pos e2).trans ((if_neg e4).trans ?_)))).trans ((if_pos a).trans (if_pos b)).symm
      rfl
    · exact ((if_pos a).trans (if_neg b)).trans ((if_pos a).trans (if_neg b)).symm
  · exact (if_neg a).trans (if_neg a).symm
set_option maxRecDepth 20000 in
theorem o_join_0011 (hv : vp_in x 4) (v1 : vp_in (sndr x.toNatClampNeg) 2) (v2 : vp_in (slnk x.toNatClampNeg) 2) (v3 : vp_in (rcvr x.toNatClampNeg) 2) (v4 : vp_in (rlnk x.toNatClampNeg) 2) (e1 : sndr x.toNatClampNeg = 0) (e2 : slnk x.toNatClampNeg = 0) (e3 : ¬ rcvr x.toNatClampNeg = 0) (e4 : ¬ rlnk x.toNatClampNeg = 0) (h : OjJ x (sndr x.toNatClampNeg) (slnk x.toNatClampNeg) 0 1 11 22 W) : OX8_join x (W 1) (W 2) (W 4) (W 6) (W 7) (W 8) (W 9) (W 10) (W 11) (W 12) (W 14) (W 16) (W 17) (W 18) (W 19) (W 20) (W 21) (W 22) sndr slnk rcvr rlnk := by
  unfold OX8_join
  exact ⟨hv, v1, fun _ => ⟨hv, v3, fun q => absurd q e3, fun _ => ⟨fun a => ⟨fun b => ⟨hv, v2, fun _ => ⟨hv, v4, fun q => absurd q e4, fun _ => h a b⟩, fun q => absurd e2 q⟩, fun _ => trivial⟩, fun _ => trivial⟩⟩, fun q => absurd e1 q⟩
set_option maxRecDepth 20000 in
theorem f_join_0100 (e1 : sndr x.toNatClampNeg = 0) (e2 : ¬ slnk x.toNatClampNeg = 0) (e3 : rcvr x.toNatClampNeg = 0) (e4 : rlnk x.toNatClampNeg = 0) : FX8_join x (W 1) (W 2) (W 4) (W 6) (W 7) (W 8) (W 9) (W 10) (W 11) (W 12) (W 14) (W 16) (W 17) (W 18) (W 19) (W 20) (W 21) (W 22) sndr slnk rcvr rlnk = jJ (sndr x.toNatClampNeg) (slnk x.toNatClampNeg) 0 0 12 11 W := by
  unfold FX8_join
  refine (if_pos e1).trans ((if_pos e3).trans ?_)
  by_cases a : FX3_isHalted (W 4) = 0
  · by_cases b : FX3_isHalted (W 4) = 0
    · refine ((if_pos a).trans ((if_pos b).trans ((if_neg e2).trans ((if_pos e4).trans ?_)))).trans ((if_pos a).trans (if_pos b)).symm
      rfl
    · exact ((if_pos a).trans (if_neg b)).trans ((if_pos a).trans (if_neg b)).symm
  · exact (if_neg a).trans (if_neg a).symm
set_option maxRecDepth 20000 in
theorem o_join_0100 (hv : vp_in x 4) (v1 : vp_in (sndr x.toNatClampNeg) 2) (v2 : vp_in (slnk x.toNatClampNeg) 2) (v3 : vp_in (rcvr x.toNatClampNeg) 2) (v4 : vp_in (rlnk x.toNatClampNeg) 2) (e1 : sndr x.toNatClampNeg = 0) (e2 : ¬ slnk x.toNatClampNeg = 0) (e3 : rcvr x.toNatClampNeg = 0) (e4 : rlnk x.toNatClampNeg = 0) (h : OjJ x (sndr x.toNatClampNeg) (slnk x.toNatClampNeg) 0 0 12 11 W) : OX8_join x (W 1) (W 2) (W 4) (W 6) (W 7) (W 8) (W 9) (W 10) (W 11) (W 12) (W 14) (W 16) (W 17) (W 18) (W 19) (W 20) (W 21) (W 22) sndr slnk rcvr rlnk := by
  unfold OX8_join
  exact ⟨hv, v1, fun _ => ⟨hv, v3, fun _ => ⟨fun a => ⟨fun b => ⟨hv, v2, fun q => absurd q e2, fun _ => ⟨hv, v4, fun _ => h a b, fun q => absurd e4 q⟩⟩, fun _ => trivial⟩, fun _ => trivial⟩, fun q => absurd e3 q⟩, fun q => absurd e1 q⟩
set_option maxRecDepth 20000 in
theorem f_join_0101 (e1 : sndr x.toNatClampNeg = 0) (e2 : ¬ slnk x.toNatClampNeg = 0) (e3 : rcvr x.toNatClampNeg = 0) (e4 : ¬ rlnk x.toNatClampNeg = 0) : FX8_join x (W 1) (W 2) (W 4) (W 6) (W 7) (W 8) (W 9) (W 10) (W 11) (W 12) (W 14) (W 16) (W 17) (W 18) (W 19) (W 20) (W 21) (W 22) sndr slnk rcvr rlnk = jJ (sndr x.toNatClampNeg) (slnk x.toNatClampNeg) 0 0 12 12 W := by
  unfold FX8_join
  refine (if_pos e1).trans ((if_pos e3).trans ?_)
  by_cases a : FX3_isHalted (W 4) = 0
  · by_cases b : FX3_isHalted (W 4) = 0
    · refine ((if_pos a).trans ((if_pos b).trans ((if_neg e2).trans ((if_neg e4).trans ?_)))).trans ((if_pos a).trans (if_pos b)).symm
      rfl
    · exact ((if_pos a).trans (if_neg b)).trans ((if_pos a).trans (if_neg b)).symm
  · exact (if_neg a).trans (if_neg a).symm
set_option maxRecDepth 20000 in
theorem o_join_0101 (hv : vp_in x 4) (v1 : vp_in (sndr x.toNatClampNeg) 2) (v2 : vp_in (slnk x.toNatClampNeg) 2) (v3 : vp_in (rcvr x.toNatClampNeg) 2) (v4 : vp_in (rlnk x.toNatClampNeg) 2) (e1 : sndr x.toNatClampNeg = 0) (e2 : ¬ slnk x.toNatClampNeg = 0) (e3 : rcvr x.toNatClampNeg = 0) (e4 : ¬ rlnk x.toNatClampNeg = 0) (h : OjJ x (sndr x.toNatClampNeg) (slnk x.toNatClampNeg) 0 0 12 12 W) : OX8_join x (W 1) (W 2) (W 4) (W 6) (W 7) (W 8) (W 9) (W 10) (W 11) (W 12) (W 14) (W 16) (W 17) (W 18) (W 19) (W 20) (W 21) (W 22) sndr slnk rcvr rlnk := by
  unfold OX8_join
  exact ⟨hv, v1, fun _ => ⟨hv, v3, fun _ => ⟨fun a => ⟨fun b => ⟨hv, v2, fun q => absurd q e2, fun _ => ⟨hv, v4, fun q => absurd q e4, fun _ => h a b⟩⟩, fun _ => trivial⟩, fun _ => trivial⟩, fun q => absurd e3 q⟩, fun q => absurd e1 q⟩
set_option maxRecDepth 20000 in
theorem f_join_0110 (e1 : sndr x.toNatClampNeg = 0) (e2 : ¬ slnk x.toNatClampNeg = 0) (e3 : ¬ rcvr x.toNatClampNeg = 0) (e4 : rlnk x.toNatClampNeg = 0) : FX8_join x (W 1) (W 2) (W 4) (W 6) (W 7) (W 8) (W 9) (W 10) (W 11) (W 12) (W 14) (W 16) (W 17) (W 18) (W 19) (W 20) (W 21) (W 22) sndr slnk rcvr rlnk = jJ (sndr x.toNatClampNeg) (slnk x.toNatClampNeg) 0 1 12 21 W := by
  unfold FX8_join
  refine (if_pos e1).trans ((if_neg e3).trans ?_)
  by_cases a : FX3_isHalted (W 4) = 0
  · by_cases b : FX3_isHalted (W 14) = 0
    · refine ((if_pos a).trans ((if_pos b).trans ((if_neg e2).trans ((if_pos e4).trans ?_)))).trans ((if_pos a).trans (if_pos b)).symm
      rfl
    · exact ((if_pos a).trans (if_neg b)).trans ((if_pos a).trans (if_neg b)).symm
  · exact (if_neg a).trans (if_neg a).symm
set_option maxRecDepth 20000 in
theorem o_join_0110 (hv : vp_in x 4) (v1 : vp_in (sndr x.toNatClampNeg) 2) (v2 : vp_in (slnk x.toNatClampNeg) 2) (v3 : vp_in (rcvr x.toNatClampNeg) 2) (v4 : vp_in (rlnk x.toNatClampNeg) 2) (e1 : sndr x.toNatClampNeg = 0) (e2 : ¬ slnk x.toNatClampNeg = 0) (e3 : ¬ rcvr x.toNatClampNeg = 0) (e4 : rlnk x.toNatClampNeg = 0) (h : OjJ x (sndr x.toNatClampNeg) (slnk x.toNatClampNeg) 0 1 12 21 W) : OX8_join x (W 1) (W 2) (W 4) (W 6) (W 7) (W 8) (W 9) (W 10) (W 11) (W 12) (W 14) (W 16) (W 17) (W 18) (W 19) (W 20) (W 21) (W 22) sndr slnk rcvr rlnk := by
  unfold OX8_join
  exact ⟨hv, v1, fun _ => ⟨hv, v3, fun q => absurd q e3, fun _ => ⟨fun a => ⟨fun b => ⟨hv, v2, fun q => absurd q e2, fun _ => ⟨hv, v4, fun _ => h a b, fun q => absurd e4 q⟩⟩, fun _ => trivial⟩, fun _ => trivial⟩⟩, fun q => absurd e1 q⟩
set_option maxRecDepth 20000 in
theorem f_join_0111 (e1 : sndr x.toNatClampNeg = 0) (e2 : ¬ slnk x.toNatClampNeg = 0) (e3 : ¬ rcvr x.toNatClampNeg = 0) (e4 : ¬ rlnk x.toNatClampNeg = 0) : FX8_join x (W 1) (W 2) (W 4) (W 6) (W 7) (W 8) (W 9) (W 10) (W 11) (W 12) (W 14) (W 16) (W 17) (W 18) (W 19) (W 20) (W 21) (W 22) sndr slnk rcvr rlnk = jJ (sndr x.toNatClampNeg) (slnk x.toNatClampNeg) 0 1 12 22 W := by
  unfold FX8_join
  refine (if_pos e1).trans ((if_neg e3).trans ?_)
  by_cases a : FX3_isHalted (W 4) = 0
  · by_cases b : FX3_isHalted (W 14) = 0
    · refine ((if_pos a).trans ((if_pos b).trans ((if_neg e2).trans ((if_neg e4).trans ?_)))).trans ((if_pos a).trans (if_pos b)).symm
      rfl
    · exact ((if_pos a).trans (if_neg b)).trans ((if_pos a).trans (if_neg b)).symm
  · exact (if_neg a).trans (if_neg a).symm
set_option maxRecDepth 20000 in
theorem o_join_0111 (hv : vp_in x 4) (v1 : vp_in (sndr x.toNatClampNeg) 2) (v2 : vp_in (slnk x.toNatClampNeg) 2) (v3 : vp_in (rcvr x.toNatClampNeg) 2) (v4 : vp_in (rlnk x.toNatClampNeg) 2) (e1 : sndr x.toNatClampNeg = 0) (e2 : ¬ slnk x.toNatClampNeg = 0) (e3 : ¬ rcvr x.toNatClampNeg = 0) (e4 : ¬ rlnk x.toNatClampNeg = 0) (h : OjJ x (sndr x.toNatClampNeg) (slnk x.toNatClampNeg) 0 1 12 22 W) : OX8_join x (W 1) (W 2) (W 4) (W 6) (W 7) (W 8) (W 9) (W 10) (W 11) (W 12) (W 14) (W 16) (W 17) (W 18) (W 19) (W 20) (W 21) (W 22) sndr slnk rcvr rlnk := by
  unfold OX8_join
  exact ⟨hv, v1, fun _ => ⟨hv, v3, fun q => absurd q e3, fun _ => ⟨fun a => ⟨fun b => ⟨hv, v2, fun q => absurd q e2, fun _ => ⟨hv, v4, fun q => absurd q e4, fun _ => h a b⟩⟩, fun _ => trivial⟩, fun _ => trivial⟩⟩, fun q => absurd e1 q⟩
set_option maxRecDepth 20000 in
theorem f_join_1000 (e1 : ¬ sndr x.toNatClampNeg = 0) (e2 : slnk x.toNatClampNeg = 0) (e3 : rcvr x.toNatClampNeg = 0) (e4 : rlnk x.toNatClampNeg = 0) : FX8_join x (W 1) (W 2) (W 4) (W 6) (W 7) (W 8) (W 9) (W 10) (W 11) (W 12) (W 14) (W 16) (W 17) (W 18) (W 19) (W 20) (W 21) (W 22) sndr slnk rcvr rlnk = jJ (sndr x.toNatClampNeg) (slnk x.toNatClampNeg) 1 0 21 11 W := by
  unfold FX8_join
  refine (if_neg e1).trans ((if_pos e3).trans ?_)
  by_cases a : FX3_isHalted (W 14) = 0
  · by_cases b : FX3_isHalted (W 4) = 0
    · refine ((if_pos a).trans ((if_pos b).trans ((if_pos e2).trans ((if_pos e4).trans ?_)))).trans ((if_pos a).trans (if_pos b)).symm
      rfl
    · exact ((if_pos a).trans (if_neg b)).trans ((if_pos a).trans (if_neg b)).symm
  · exact (if_neg a).trans (if_neg a).symm
set_option maxRecDepth 20000 in
theorem o_join_1000 (hv : vp_in x 4) (v1 : vp_in (sndr x.toNatClampNeg) 2) (v2 : vp_in (slnk x.toNatClampNeg) 2) (v3 : vp_in (rcvr x.toNatClampNeg) 2) (v4 : vp_in (rlnk x.toNatClampNeg) 2) (e1 : ¬ sndr x.toNatClampNeg = 0) (e2 : slnk x.toNatClampNeg = 0) (e3 : rcvr x.toNatClampNeg = 0) (e4 : rlnk x.toNatClampNeg = 0) (h : OjJ x (sndr x.toNatClampNeg) (slnk x.toNatClampNeg) 1 0 21 11 W) : OX8_join x (W 1) (W 2) (W 4) (W 6) (W 7) (W 8) (W 9) (W 10) (W 11) (W 12) (W 14) (W 16) (W 17) (W 18) (W 19) (W 20) (W 21) (W 22) sndr slnk rcvr rlnk := by
  unfold OX8_join
  exact ⟨hv, v1, fun q => absurd q e1, fun _ => ⟨hv, v3, fun _ => ⟨fun a => ⟨fun b => ⟨hv, v2, fun _ => ⟨hv, v4, fun _ => h a b, fun q => absurd e4 q⟩, fun q => absurd e2 q⟩, fun _ => trivial⟩, fun _ => trivial⟩, fun q => absurd e3 q⟩⟩
set_option maxRecDepth 20000 in
theorem f_join_1001 (e1 : ¬ sndr x.toNatClampNeg = 0) (e2 : slnk x.toNatClampNeg = 0) (e3 : rcvr x.toNatClampNeg = 0) (e4 : ¬ rlnk x.toNatClampNeg = 0) : FX8_join x (W 1) (W 2) (W 4) (W 6) (W 7) (W 8) (W 9) (W 10) (W 11) (W 12) (W 14) (W 16) (W 17) (W 18) (W 19) (W 20) (W 21) (W 22) sndr slnk rcvr rlnk = jJ (sndr x.toNatClampNeg) (slnk x.toNatClampNeg) 1 0 21 12 W := by
  unfold FX8_join
  refine (if_neg e1).trans ((if_pos e3).trans ?_)
  by_cases a : FX3_isHalted (W 14) = 0
  · by_cases b : FX3_isHalted (W 4) = 0
    · refine ((if_pos a).trans ((if_pos b).trans ((if_pos e2).trans ((if_neg e4).trans ?_)))).trans ((if_pos a).trans (if_pos b)).symm
      rfl
    · exact ((if_pos a).trans (if_neg b)).trans ((if_pos a).trans (if_neg b)).symm
  · exact (if_neg a).trans (if_neg a).symm
set_option maxRecDepth 20000 in
theorem o_join_1001 (hv : vp_in x 4) (v1 : vp_in (sndr x.toNatClampNeg) 2) (v2 : vp_in (slnk x.toNatClampNeg) 2) (v3 : vp_in (rcvr x.toNatClampNeg) 2) (v4 : vp_in (rlnk x.toNatClampNeg) 2) (e1 : ¬ sndr x.toNatClampNeg = 0) (e2 : slnk x.toNatClampNeg = 0) (e3 : rcvr x.toNatClampNeg = 0) (e4 : ¬ rlnk x.toNatClampNeg = 0) (h : OjJ x (sndr x.toNatClampNeg) (slnk x.toNatClampNeg) 1 0 21 12 W) : OX8_join x (W 1) (W 2) (W 4) (W 6) (W 7) (W 8) (W 9) (W 10) (W 11) (W 12) (W 14) (W 16) (W 17) (W 18) (W 19) (W 20) (W 21) (W 22) sndr slnk rcvr rlnk := by
  unfold OX8_join
  exact ⟨hv, v1, fun q => absurd q e1, fun _ => ⟨hv, v3, fun _ => ⟨fun a => ⟨fun b => ⟨hv, v2, fun _ => ⟨hv, v4, fun q => absurd q e4, fun _ => h a b⟩, fun q => absurd e2 q⟩, fun _ => trivial⟩, fun _ => trivial⟩, fun q => absurd e3 q⟩⟩
set_option maxRecDepth 20000 in
theorem f_join_1010 (e1 : ¬ sndr x.toNatClampNeg = 0) (e2 : slnk x.toNatClampNeg = 0) (e3 : ¬ rcvr x.toNatClampNeg = 0) (e4 : rlnk x.toNatClampNeg = 0) : FX8_join x (W 1) (W 2) (W 4) (W 6) (W 7) (W 8) (W 9) (W 10) (W 11) (W 12) (W 14) (W 16) (W 17) (W 18) (W 19) (W 20) (W 21) (W 22) sndr slnk rcvr rlnk = jJ (sndr x.toNatClampNeg) (slnk x.toNatClampNeg) 1 1 21 21 W := by
  unfold FX8_join
  refine (if_neg e1).trans ((if_neg e3).trans ?_)
  by_cases a : FX3_isHalted (W 14) = 0
  · by_cases b : FX3_isHalted (W 14) = 0
    · refine ((if_pos a).trans ((if_pos b).trans ((if_pos e2).trans ((if_pos e4).trans ?_)))).trans ((if_pos a).trans (if_pos b)).symm
      rfl
    · exact ((if_pos a).trans (if_neg b)).trans ((if_pos a).trans (if_neg b)).symm
  · exact (if_neg a).trans (if_neg a).symm
set_option maxRecDepth 20000 in
theorem o_join_1010 (hv : vp_in x 4) (v1 : vp_in (sndr x.toNatClampNeg) 2) (v2 : vp_in (slnk x.toNatClampNeg) 2) (v3 : vp_in (rcvr x.toNatClampNeg) 2) (v4 : vp_in (rlnk x.toNatClampNeg) 2) (e1 : ¬ sndr x.toNatClampNeg = 0) (e2 : slnk x.toNatClampNeg = 0) (e3 : ¬ rcvr x.toNatClampNeg = 0) (e4 : rlnk x.toNatClampNeg = 0) (h : OjJ x (sndr x.toNatClampNeg) (slnk x.toNatClampNeg) 1 1 21 21 W) : OX8_join x (W 1) (W 2) (W 4) (W 6) (W 7) (W 8) (W 9) (W 10) (W 11) (W 12) (W 14) (W 16) (W 17) (W 18) (W 19) (W 20) (W 21) (W 22) sndr slnk rcvr rlnk := by
  unfold OX8_join
  exact ⟨hv, v1, fun q => absurd q e1, fun _ => ⟨hv, v3, fun q => absurd q e3, fun _ => ⟨fun a => ⟨fun b => ⟨hv, v2, fun _ => ⟨hv, v4, fun _ => h a b, fun q => absurd e4 q⟩, fun q => absurd e2 q⟩, fun _ => trivial⟩, fun _ => trivial⟩⟩⟩
set_option maxRecDepth 20000 in
theorem f_join_1011 (e1 : ¬ sndr x.toNatClampNeg = 0) (e2 : slnk x.toNatClampNeg = 0) (e3 : ¬ rcvr x.toNatClampNeg = 0) (e4 : ¬ rlnk x.toNatClampNeg = 0) : FX8_join x (W 1) (W 2) (W 4) (W 6) (W 7) (W 8) (W 9) (W 10) (W 11) (W 12) (W 14) (W 16) (W 17) (W 18) (W 19) (W 20) (W 21) (W 22) sndr slnk rcvr rlnk = jJ (sndr x.toNatClampNeg) (slnk x.toNatClampNeg) 1 1 21 22 W := by
  unfold FX8_join
  refine (if_neg e1).trans ((if_neg e3).trans ?_)
  by_cases a : FX3_isHalted (W 14) = 0
  · by_cases b : FX3_isHalted (W 14) = 0
    · refine ((if_pos a).trans ((if_pos b).trans ((if_pos e2).trans ((if_neg e4).trans ?_)))).trans ((if_pos a).trans (if_pos b)).symm
      rfl
    · exact ((if_pos a).trans (if_neg b)).trans ((if_pos a).trans (if_neg b)).symm
  · exact (if_neg a).trans (if_neg a).symm
set_option maxRecDepth 20000 in
theorem o_join_1011 (hv : vp_in x 4) (v1 : vp_in (sndr x.toNatClampNeg) 2) (v2 : vp_in (slnk x.toNatClampNeg) 2) (v3 : vp_in (rcvr x.toNatClampNeg) 2) (v4 : vp_in (rlnk x.toNatClampNeg) 2) (e1 : ¬ sndr x.toNatClampNeg = 0) (e2 : slnk x.toNatClampNeg = 0) (e3 : ¬ rcvr x.toNatClampNeg = 0) (e4 : ¬ rlnk x.toNatClampNeg = 0) (h : OjJ x (sndr x.toNatClampNeg) (slnk x.toNatClampNeg) 1 1 21 22 W) : OX8_join x (W 1) (W 2) (W 4) (W 6) (W 7) (W 8) (W 9) (W 10) (W 11) (W 12) (W 14) (W 16) (W 17) (W 18) (W 19) (W 20) (W 21) (W 22) sndr slnk rcvr rlnk := by
  unfold OX8_join
  exact ⟨hv, v1, fun q => absurd q e1, fun _ => ⟨hv, v3, fun q => absurd q e3, fun _ => ⟨fun a => ⟨fun b => ⟨hv, v2, fun _ => ⟨hv, v4, fun q => absurd q e4, fun _ => h a b⟩, fun q => absurd e2 q⟩, fun _ => trivial⟩, fun _ => trivial⟩⟩⟩
set_option maxRecDepth 20000 in
theorem f_join_1100 (e1 : ¬ sndr x.toNatClampNeg = 0) (e2 : ¬ slnk x.toNatClampNeg = 0) (e3 : rcvr x.toNatClampNeg = 0) (e4 : rlnk x.toNatClampNeg = 0) : FX8_join x (W 1) (W 2) (W 4) (W 6) (W 7) (W 8) (W 9) (W 10) (W 11) (W 12) (W 14) (W 16) (W 17) (W 18) (W 19) (W 20) (W 21) (W 22) sndr slnk rcvr rlnk = jJ (sndr x.toNatClampNeg) (slnk x.toNatClampNeg) 1 0 22 11 W := by
  unfold FX8_join
  refine (if_neg e1).trans ((if_pos e3).trans ?_)
  by_cases a : FX3_isHalted (W 14) = 0
  · by_cases b : FX3_isHalted (W 4) = 0
    · refine ((if_pos a).trans ((if_pos b).trans ((if_neg e2).trans ((if_pos e4).trans ?_)))).trans ((if_pos a).trans (if_pos b)).symm
      rfl
    · exact ((if_pos a).trans (if_neg b)).trans ((if_pos a).trans (if_neg b)).symm
  · exact (if_neg a).trans (if_neg a).symm
set_option maxRecDepth 20000 in
theorem o_join_1100 (hv : vp_in x 4) (v1 : vp_in (sndr x.toNatClampNeg) 2) (v2 : vp_in (slnk x.toNatClampNeg) 2) (v3 : vp_in (rcvr x.toNatClampNeg) 2) (v4 : vp_in (rlnk x.toNatClampNeg) 2) (e1 : ¬ sndr x.toNatClampNeg = 0) (e2 : ¬ slnk x.toNatClampNeg = 0) (e3 : rcvr x.toNatClampNeg = 0) (e4 : rlnk x.toNatClampNeg = 0) (h : OjJ x (sndr x.toNatClampNeg) (slnk x.toNatClampNeg) 1 0 22 11 W) : OX8_join x (W 1) (W 2) (W 4) (W 6) (W 7) (W 8) (W 9) (W 10) (W 11) (W 12) (W 14) (W 16) (W 17) (W 18) (W 19) (W 20) (W 21) (W 22) sndr slnk rcvr rlnk := by
  unfold OX8_join
  exact ⟨hv, v1, fun q => absurd q e1, fun _ => ⟨hv, v3, fun _ => ⟨fun a => ⟨fun b => ⟨hv, v2, fun q => absurd q e2, fun _ => ⟨hv, v4, fun _ => h a b, fun q => absurd e4 q⟩⟩, fun _ => trivial⟩, fun _ => trivial⟩, fun q => absurd e3 q⟩⟩
set_option maxRecDepth 20000 in
theorem f_join_1101 (e1 : ¬ sndr x.toNatClampNeg = 0) (e2 : ¬ slnk x.toNatClampNeg = 0) (e3 : rcvr x.toNatClampNeg = 0) (e4 : ¬ rlnk x.toNatClampNeg = 0) : FX8_join x (W 1) (W 2) (W 4) (W 6) (W 7) (W 8) (W 9) (W 10) (W 11) (W 12) (W 14) (W 16) (W 17) (W 18) (W 19) (W 20) (W 21) (W 22) sndr slnk rcvr rlnk = jJ (sndr x.toNatClampNeg) (slnk x.toNatClampNeg) 1 0 22 12 W := by
  unfold FX8_join
  refine (if_neg e1).trans ((if_pos e3).trans ?_)
  by_cases a : FX3_isHalted (W 14) = 0
  · by_cases b : FX3_isHalted (W 4) = 0
    · refine ((if_pos a).trans ((if_pos b).trans ((if_neg e2).trans ((if_neg e4).trans ?_)))).trans ((if_pos a).trans (if_pos b)).symm
      rfl
    · exact ((if_pos a).trans (if_neg b)).trans ((if_pos a).trans (if_neg b)).symm
  · exact (if_neg a).trans (if_neg a).symm
set_option maxRecDepth 20000 in
theorem o_join_1101 (hv : vp_in x 4) (v1 : vp_in (sndr x.toNatClampNeg) 2) (v2 : vp_in (slnk x.toNatClampNeg) 2) (v3 : vp_in (rcvr x.toNatClampNeg) 2) (v4 : vp_in (rlnk x.toNatClampNeg) 2) (e1 : ¬ sndr x.toNatClampNeg = 0) (e2 : ¬ slnk x.toNatClampNeg = 0) (e3 : rcvr x.toNatClampNeg = 0) (e4 : ¬ rlnk x.toNatClampNeg = 0) (h : OjJ x (sndr x.toNatClampNeg) (slnk x.toNatClampNeg) 1 0 22 12 W) : OX8_join x (W 1) (W 2) (W 4) (W 6) (W 7) (W 8) (W 9) (W 10) (W 11) (W 12) (W 14) (W 16) (W 17) (W 18) (W 19) (W 20) (W 21) (W 22) sndr slnk rcvr rlnk := by
  unfold OX8_join
  exact ⟨hv, v1, fun q => absurd q e1, fun _ => ⟨hv, v3, fun _ => ⟨fun a => ⟨fun b => ⟨hv, v2, fun q => absurd q e2, fun _ => ⟨hv, v4, fun q => absurd q e4, fun _ => h a b⟩⟩, fun _ => trivial⟩, fun _ => trivial⟩, fun q => absurd e3 q⟩⟩
set_option maxRecDepth 20000 in
theorem f_join_1110 (e1 : ¬ sndr x.toNatClampNeg = 0) (e2 : ¬ slnk x.toNatClampNeg = 0) (e3 : ¬ rcvr x.toNatClampNeg = 0) (e4 : rlnk x.toNatClampNeg = 0) : FX8_join x (W 1) (W 2) (W 4) (W 6) (W 7) (W 8) (W 9) (W 10) (W 11) (W 12) (W 14) (W 16) (W 17) (W 18) (W 19) (W 20) (W 21) (W 22) sndr slnk rcvr rlnk = jJ (sndr x.toNatClampNeg) (slnk x.toNatClampNeg) 1 1 22 21 W := by
  unfold FX8_join
  refine (if_neg e1).trans ((if_neg e3).trans ?_)
  by_cases a : FX3_isHalted (W 14) = 0
  · by_cases b : FX3_isHalted (W 14) = 0
    · refine ((if_pos a).trans ((if_pos b).trans ((if_neg e2).trans ((if_pos e4).trans ?_)))).trans ((if_pos a).trans (if_pos b)).symm
      rfl
    · exact ((if_pos a).trans (if_neg b)).trans ((if_pos a).trans (if_neg b)).symm
  · exact (if_neg a).trans (if_neg a).symm
set_option maxRecDepth 20000 in
theorem o_join_1110 (hv : vp_in x 4) (v1 : vp_in (sndr x.toNatClampNeg) 2) (v2 : vp_in (slnk x.toNatClampNeg) 2) (v3 : vp_in (rcvr x.toNatClampNeg) 2) (v4 : vp_in (rlnk x.toNatClampNeg) 2) (e1 : ¬ sndr x.toNatClampNeg = 0) (e2 : ¬ slnk x.toNatClampNeg = 0) (e3 : ¬ rcvr x.toNatClampNeg = 0) (e4 : rlnk x.toNatClampNeg = 0) (h : OjJ x (sndr x.toNatClampNeg) (slnk x.toNatClampNeg) 1 1 22 21 W) : OX8_join x (W 1) (W 2) (W 4) (W 6) (W 7) (W 8) (W 9) (W 10) (W 11) (W 12) (W 14) (W 16) (W 17) (W 18) (W 19) (W 20) (W 21) (W 22) sndr slnk rcvr rlnk := by
  unfold OX8_join
  exact ⟨hv, v1, fun q => absurd q e1, fun _ => ⟨hv, v3, fun q => absurd q e3, fun _ => ⟨fun a => ⟨fun b => ⟨hv, v2, fun q => absurd q e2, fun _ => ⟨hv, v4, fun _ => h a b, fun q => absurd e4 q⟩⟩, fun _ => trivial⟩, fun _ => trivial⟩⟩⟩
set_option maxRecDepth 20000 in
theorem f_join_1111 (e1 : ¬ sndr x.toNatClampNeg = 0) (e2 : ¬ slnk x.toNatClampNeg = 0) (e3 : ¬ rcvr x.toNatClampNeg = 0) (e4 : ¬ rlnk x.toNatClampNeg = 0) : FX8_join x (W 1) (W 2) (W 4) (W 6) (W 7) (W 8) (W 9) (W 10) (W 11) (W 12) (W 14) (W 16) (W 17) (W 18) (W 19) (W 20) (W 21) (W 22) sndr slnk rcvr rlnk = jJ (sndr x.toNatClampNeg) (slnk x.toNatClampNeg) 1 1 22 22 W := by
  unfold FX8_join
  refine (if_neg e1).trans ((if_neg e3).trans ?_)
  by_cases a : FX3_isHalted (W 14) = 0
  · by_cases b : FX3_isHalted (W 14) = 0
    · refine ((if_pos a).trans ((if_pos b).trans ((if_neg e2).trans ((if_neg e4).trans ?_)))).trans ((if_pos a).trans (if_pos b)).symm
      rfl
    · exact ((if_pos a).trans (if_neg b)).trans ((if_pos a).trans (if_neg b)).symm
  · exact (if_neg a).trans (if_neg a).symm
set_option maxRecDepth 20000 in
theorem o_join_1111 (hv : vp_in x 4) (v1 : vp_in (sndr x.toNatClampNeg) 2) (v2 : vp_in (slnk x.toNatClampNeg) 2) (v3 : vp_in (rcvr x.toNatClampNeg) 2) (v4 : vp_in (rlnk x.toNatClampNeg) 2) (e1 : ¬ sndr x.toNatClampNeg = 0) (e2 : ¬ slnk x.toNatClampNeg = 0) (e3 : ¬ rcvr x.toNatClampNeg = 0) (e4 : ¬ rlnk x.toNatClampNeg = 0) (h : OjJ x (sndr x.toNatClampNeg) (slnk x.toNatClampNeg) 1 1 22 22 W) : OX8_join x (W 1) (W 2) (W 4) (W 6) (W 7) (W 8) (W 9) (W 10) (W 11) (W 12) (W 14) (W 16) (W 17) (W 18) (W 19) (W 20) (W 21) (W 22) sndr slnk rcvr rlnk := by
  unfold OX8_join
  exact ⟨hv, v1, fun q => absurd q e1, fun _ => ⟨hv, v3, fun q => absurd q e3, fun _ => ⟨fun a => ⟨fun b => ⟨hv, v2, fun q => absurd q e2, fun _ => ⟨hv, v4, fun q => absurd q e4, fun _ => h a b⟩⟩, fun _ => trivial⟩, fun _ => trivial⟩⟩⟩
end JNS
