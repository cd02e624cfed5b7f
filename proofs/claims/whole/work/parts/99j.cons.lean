/-! CONSTRUCTORS again, with the rows of the timers (GENERATED, wip/gen/g18.py) -/
set_option maxRecDepth 20000 in
set_option maxHeartbeats 4000000 in
theorem nY0_init {d : Nat} {σ : mMH} {o : Nat} (hL : σ.2.1.length = o + 1) (hO : rOK σ) (hR : σ.2.2.2.1 o = fun _ => 0) (hK : σ.2.1[o]? = some (0, 0)) (hz : o + 2 ≤ 1000000) : CC (d + 1) 0 [.ref o] σ (fun τ => Ex σ τ o ∧ τ.2.1.length = o + 1 + 1 ∧ τ.1 = σ.1 + 180 ∧ rOK τ ∧ isDia (mBo τ) o) := by
  have K_0_0 := hK
  have R_0_0 := hR
  have O_0 := hO
  have N_0 := hL
  have T_0 : σ.1 = σ.1 + 0 := rfl
  have X_0 : Ex σ σ o := Ex.rf
  refine c_begin mt_0 (by intro a ha; simp only [List.mem_cons, List.not_mem_nil, or_false] at ha; rcases ha with rfl <;> rfl) (Nat.le_of_ble_eq_true rfl) ?_
  show RC _ _ _ [some (.ref o)] [] σ _
  refine c_aload rfl ?_
  refine c_obj (Nat.le_of_ble_eq_true rfl) ?_
  refine c_aload rfl ?_
  refine c_int ?_
  refine c_newa (t := 0) (z := 180) (by decide) (by decide) (mOut_lt (ltL [o] rfl (List.forall_mem_cons.mpr ⟨by omega, (fun _ h => absurd h List.not_mem_nil)⟩)) (ltS [o] rfl (List.forall_mem_cons.mpr ⟨by omega, (fun _ h => absurd h List.not_mem_nil)⟩))) O_0 ?_
  rw [show ((180 : Int32)).toNatClampNeg = 180 by decide]
  obtain ⟨σ1, e1⟩ : ∃ x, x = mNew σ 20 180 180 := ⟨_, rfl⟩
  rw [← e1, show σ.2.1.length = o + 1 by omega]
  have N_1 : σ1.2.1.length = o + 2 := by rw [e1, len_new]; omega
  have T_1 : σ1.1 = σ.1 + 180 := by rw [e1]; show σ.1 + 180 = _; omega
  have O_1 : rOK σ1 := by rw [e1]; exact rOK_new O_0
  have X_1 : Ex σ σ1 o := by rw [e1]; exact X_0.new (by omega)
  have K_0_1 : σ1.2.1[o]? = some (0, 0) := by rw [e1]; exact k_new K_0_0
  have R_0_1 : σ1.2.2.2.1 o = fun _ => 0 := by rw [e1]; exact (mup_ne (by omega)).trans R_0_0
  have K_1_1 : σ1.2.1[o + 1]? = some (20, 180) := by rw [e1, ← show σ.2.1.length = o + 1 by omega]; exact k_newS
  have R_1_1 : σ1.2.2.2.1 (o + 1) = fun _ => 0 := by rw [e1, ← show σ.2.1.length = o + 1 by omega]; exact mup_eq
  clear K_0_0 R_0_0 N_0 T_0 O_0 X_0 e1
  show RC _ _ _ [some (.ref o)] [.ref (o + 1), .ref o] σ1 _
  refine c_putr K_0_1 ?_
  obtain ⟨σ2, e2⟩ : ∃ x, x = mPr σ1 o 2 (some (o + 1)) := ⟨_, rfl⟩
  rw [← e2]
  have N_2 : σ2.2.1.length = o + 2 := by rw [e2]; exact N_1
  have T_2 : σ2.1 = σ.1 + 180 := by rw [e2]; exact T_1
  have O_2 : rOK σ2 := by rw [e2]; exact rOK_pr O_1 (by omega)
  have X_2 : Ex σ σ2 o := by rw [e2]; exact X_1.pr (by omega)
  have K_0_2 : σ2.2.1[o]? = some (0, 0) := by rw [e2]; exact K_0_1
  have K_1_2 : σ2.2.1[o + 1]? = some (20, 180) := by rw [e2]; exact K_1_1
  have R_0_2 : σ2.2.2.2.1 o = fun _ => 0 := by rw [e2]; exact R_0_1
  have R_1_2 : σ2.2.2.2.1 (o + 1) = fun _ => 0 := by rw [e2]; exact R_1_1
  have G_0_2_2 : σ2.2.2.1 o 2 = some (o + 1) := by rw [e2]; exact g_prS
  clear K_0_1 K_1_1 R_0_1 R_1_1 N_1 T_1 O_1 X_1 e2 σ1
  show RC _ _ _ [some (.ref o)] [] σ2 _
  refine c_retv (by omega) ?_
  exact ⟨X_2, by omega, T_2, O_2, ⟨K_0_2, K_1_2, G_0_2_2⟩⟩
set_option maxRecDepth 20000 in
set_option maxHeartbeats 4000000 in
theorem nY2_init {d : Nat} {σ : mMH} {o : Nat} (hL : σ.2.1.length = o + 1) (hO : rOK σ) (hR : σ.2.2.2.1 o = fun _ => 0) (hK : σ.2.1[o]? = some (2, 0)) (hz : o + 1 ≤ 1000000) : CC (d + 1) 9 [.ref o] σ (fun τ => Ex σ τ o ∧ τ.2.1.length = o + 1 + 0 ∧ τ.1 = σ.1 + 0 ∧ rOK τ) := by
  have K_0_0 := hK
  have R_0_0 := hR
  have O_0 := hO
  have N_0 := hL
  have T_0 : σ.1 = σ.1 + 0 := rfl
  have X_0 : Ex σ σ o := Ex.rf
  refine c_begin mt_9 (by intro a ha; simp only [List.mem_cons, List.not_mem_nil, or_false] at ha; rcases ha with rfl <;> rfl) (Nat.le_of_ble_eq_true rfl) ?_
  show RC _ _ _ [some (.ref o)] [] σ _
  refine c_aload rfl ?_
  refine c_obj (Nat.le_of_ble_eq_true rfl) ?_
  refine c_retv (by omega) ?_
  exact ⟨X_0, by omega, T_0, O_0⟩
set_option maxRecDepth 20000 in
set_option maxHeartbeats 4000000 in
theorem nY6_init {d : Nat} {σ : mMH} {o : Nat} (hL : σ.2.1.length = o + 1) (hO : rOK σ) (hR : σ.2.2.2.1 o = fun _ => 0) (hK : σ.2.1[o]? = some (6, 0)) (hz : o + 4 ≤ 1000000) : CC (d + 1) 100 [.ref o] σ (fun τ => Ex σ τ o ∧ τ.2.1.length = o + 1 + 3 ∧ τ.1 = σ.1 + 36 ∧ rOK τ ∧ isTim (mBo τ) o ∧ τ.2.2.2.1 (o + 3) = (fun _ => 0)) := by
  have K_0_0 := hK
  have R_0_0 := hR
  have O_0 := hO
  have N_0 := hL
  have T_0 : σ.1 = σ.1 + 0 := rfl
  have X_0 : Ex σ σ o := Ex.rf
  refine c_begin mt_100 (by intro a ha; simp only [List.mem_cons, List.not_mem_nil, or_false] at ha; rcases ha with rfl <;> rfl) (Nat.le_of_ble_eq_true rfl) ?_
  show RC _ _ _ [some (.ref o)] [] σ _
  refine c_aload rfl ?_
  refine c_obj (Nat.le_of_ble_eq_true rfl) ?_
  refine c_aload rfl ?_
  refine c_int ?_
  refine c_newa (t := 0) (z := 12) (by decide) (by decide) (mOut_lt (ltL [o] rfl (List.forall_mem_cons.mpr ⟨by omega, (fun _ h => absurd h List.not_mem_nil)⟩)) (ltS [o] rfl (List.forall_mem_cons.mpr ⟨by omega, (fun _ h => absurd h List.not_mem_nil)⟩))) O_0 ?_
  rw [show ((12 : Int32)).toNatClampNeg = 12 by decide]
  obtain ⟨σ1, e1⟩ : ∃ x, x = mNew σ 20 12 12 := ⟨_, rfl⟩
  rw [← e1, show σ.2.1.length = o + 1 by omega]
  have N_1 : σ1.2.1.length = o + 2 := by rw [e1, len_new]; omega
  have T_1 : σ1.1 = σ.1 + 12 := by rw [e1]; show σ.1 + 12 = _; omega
  have O_1 : rOK σ1 := by rw [e1]; exact rOK_new O_0
  have X_1 : Ex σ σ1 o := by rw [e1]; exact X_0.new (by omega)
  have K_0_1 : σ1.2.1[o]? = some (6, 0) := by rw [e1]; exact k_new K_0_0
  have R_0_1 : σ1.2.2.2.1 o = fun _ => 0 := by rw [e1]; exact (mup_ne (by omega)).trans R_0_0
  have K_1_1 : σ1.2.1[o + 1]? = some (20, 12) := by rw [e1, ← show σ.2.1.length = o + 1 by omega]; exact k_newS
  have R_1_1 : σ1.2.2.2.1 (o + 1) = fun _ => 0 := by rw [e1, ← show σ.2.1.length = o + 1 by omega]; exact mup_eq
  clear K_0_0 R_0_0 N_0 T_0 O_0 X_0 e1
  show RC _ _ _ [some (.ref o)] [.ref (o + 1), .ref o] σ1 _
  refine c_putr K_0_1 ?_
  obtain ⟨σ2, e2⟩ : ∃ x, x = mPr σ1 o 1 (some (o + 1)) := ⟨_, rfl⟩
  rw [← e2]
  have N_2 : σ2.2.1.length = o + 2 := by rw [e2]; exact N_1
  have T_2 : σ2.1 = σ.1 + 12 := by rw [e2]; exact T_1
  have O_2 : rOK σ2 := by rw [e2]; exact rOK_pr O_1 (by omega)
  have X_2 : Ex σ σ2 o := by rw [e2]; exact X_1.pr (by omega)
  have K_0_2 : σ2.2.1[o]? = some (6, 0) := by rw [e2]; exact K_0_1
  have K_1_2 : σ2.2.1[o + 1]? = some (20, 12) := by rw [e2]; exact K_1_1
  have R_0_2 : σ2.2.2.2.1 o = fun _ => 0 := by rw [e2]; exact R_0_1
  have R_1_2 : σ2.2.2.2.1 (o + 1) = fun _ => 0 := by rw [e2]; exact R_1_1
  have G_0_1_2 : σ2.2.2.1 o 1 = some (o + 1) := by rw [e2]; exact g_prS
  clear K_0_1 K_1_1 R_0_1 R_1_1 N_1 T_1 O_1 X_1 e2 σ1
  show RC _ _ _ [some (.ref o)] [] σ2 _
  refine c_aload rfl ?_
  refine c_int ?_
  refine c_newa (t := 0) (z := 12) (by decide) (by decide) (mOut_lt (ltL [o] rfl (List.forall_mem_cons.mpr ⟨by omega, (fun _ h => absurd h List.not_mem_nil)⟩)) (ltS [o] rfl (List.forall_mem_cons.mpr ⟨by omega, (fun _ h => absurd h List.not_mem_nil)⟩))) O_2 ?_
  rw [show ((12 : Int32)).toNatClampNeg = 12 by decide]
  obtain ⟨σ3, e3⟩ : ∃ x, x = mNew σ2 20 12 12 := ⟨_, rfl⟩
  rw [← e3, show σ2.2.1.length = o + 2 by omega]
  have N_3 : σ3.2.1.length = o + 3 := by rw [e3, len_new]; omega
  have T_3 : σ3.1 = σ.1 + 24 := by rw [e3]; show σ2.1 + 12 = _; omega
  have O_3 : rOK σ3 := by rw [e3]; exact rOK_new O_2
  have X_3 : Ex σ σ3 o := by rw [e3]; exact X_2.new (by omega)
  have K_0_3 : σ3.2.1[o]? = some (6, 0) := by rw [e3]; exact k_new K_0_2
  have K_1_3 : σ3.2.1[o + 1]? = some (20, 12) := by rw [e3]; exact k_new K_1_2
  have G_0_1_3 : σ3.2.2.1 o 1 = some (o + 1) := by rw [e3]; exact g_new (by omega) G_0_1_2
  have R_0_3 : σ3.2.2.2.1 o = fun _ => 0 := by rw [e3]; exact (mup_ne (by omega)).trans R_0_2
  have R_1_3 : σ3.2.2.2.1 (o + 1) = fun _ => 0 := by rw [e3]; exact (mup_ne (by omega)).trans R_1_2
  have K_2_3 : σ3.2.1[o + 2]? = some (20, 12) := by rw [e3, ← show σ2.2.1.length = o + 2 by omega]; exact k_newS
  have R_2_3 : σ3.2.2.2.1 (o + 2) = fun _ => 0 := by rw [e3, ← show σ2.2.1.length = o + 2 by omega]; exact mup_eq
  clear K_0_2 K_1_2 G_0_1_2 R_0_2 R_1_2 N_2 T_2 O_2 X_2 e3 σ2
  show RC _ _ _ [some (.ref o)] [.ref (o + 2), .ref o] σ3 _
  refine c_putr K_0_3 ?_
  obtain ⟨σ4, e4⟩ : ∃ x, x = mPr σ3 o 2 (some (o + 2)) := ⟨_, rfl⟩
  rw [← e4]
  have N_4 : σ4.2.1.length = o + 3 := by rw [e4]; exact N_3
  have T_4 : σ4.1 = σ.1 + 24 := by rw [e4]; exact T_3
  have O_4 : rOK σ4 := by rw [e4]; exact rOK_pr O_3 (by omega)
  have X_4 : Ex σ σ4 o := by rw [e4]; exact X_3.pr (by omega)
  have K_0_4 : σ4.2.1[o]? = some (6, 0) := by rw [e4]; exact K_0_3
  have K_1_4 : σ4.2.1[o + 1]? = some (20, 12) := by rw [e4]; exact K_1_3
  have K_2_4 : σ4.2.1[o + 2]? = some (20, 12) := by rw [e4]; exact K_2_3
  have G_0_1_4 : σ4.2.2.1 o 1 = some (o + 1) := by rw [e4]; exact g_prK (by decide) G_0_1_3
  have R_0_4 : σ4.2.2.2.1 o = fun _ => 0 := by rw [e4]; exact R_0_3
  have R_1_4 : σ4.2.2.2.1 (o + 1) = fun _ => 0 := by rw [e4]; exact R_1_3
  have R_2_4 : σ4.2.2.2.1 (o + 2) = fun _ => 0 := by rw [e4]; exact R_2_3
  have G_0_2_4 : σ4.2.2.1 o 2 = some (o + 2) := by rw [e4]; exact g_prS
  clear K_0_3 K_1_3 K_2_3 G_0_1_3 R_0_3 R_1_3 R_2_3 N_3 T_3 O_3 X_3 e4 σ3
  show RC _ _ _ [some (.ref o)] [] σ4 _
  refine c_aload rfl ?_
  refine c_int ?_
  refine c_newa (t := 2) (z := 12) (by decide) (by decide) (mOut_lt (ltL [o] rfl (List.forall_mem_cons.mpr ⟨by omega, (fun _ h => absurd h List.not_mem_nil)⟩)) (ltS [o] rfl (List.forall_mem_cons.mpr ⟨by omega, (fun _ h => absurd h List.not_mem_nil)⟩))) O_4 ?_
  rw [show ((12 : Int32)).toNatClampNeg = 12 by decide]
  obtain ⟨σ5, e5⟩ : ∃ x, x = mNew σ4 22 12 12 := ⟨_, rfl⟩
  rw [← e5, show σ4.2.1.length = o + 3 by omega]
  have N_5 : σ5.2.1.length = o + 4 := by rw [e5, len_new]; omega
  have T_5 : σ5.1 = σ.1 + 36 := by rw [e5]; show σ4.1 + 12 = _; omega
  have O_5 : rOK σ5 := by rw [e5]; exact rOK_new O_4
  have X_5 : Ex σ σ5 o := by rw [e5]; exact X_4.new (by omega)
  have K_0_5 : σ5.2.1[o]? = some (6, 0) := by rw [e5]; exact k_new K_0_4
  have K_1_5 : σ5.2.1[o + 1]? = some (20, 12) := by rw [e5]; exact k_new K_1_4
  have K_2_5 : σ5.2.1[o + 2]? = some (20, 12) := by rw [e5]; exact k_new K_2_4
  have G_0_1_5 : σ5.2.2.1 o 1 = some (o + 1) := by rw [e5]; exact g_new (by omega) G_0_1_4
  have G_0_2_5 : σ5.2.2.1 o 2 = some (o + 2) := by rw [e5]; exact g_new (by omega) G_0_2_4
  have R_0_5 : σ5.2.2.2.1 o = fun _ => 0 := by rw [e5]; exact (mup_ne (by omega)).trans R_0_4
  have R_1_5 : σ5.2.2.2.1 (o + 1) = fun _ => 0 := by rw [e5]; exact (mup_ne (by omega)).trans R_1_4
  have R_2_5 : σ5.2.2.2.1 (o + 2) = fun _ => 0 := by rw [e5]; exact (mup_ne (by omega)).trans R_2_4
  have K_3_5 : σ5.2.1[o + 3]? = some (22, 12) := by rw [e5, ← show σ4.2.1.length = o + 3 by omega]; exact k_newS
  have R_3_5 : σ5.2.2.2.1 (o + 3) = fun _ => 0 := by rw [e5, ← show σ4.2.1.length = o + 3 by omega]; exact mup_eq
  clear K_0_4 K_1_4 K_2_4 G_0_1_4 G_0_2_4 R_0_4 R_1_4 R_2_4 N_4 T_4 O_4 X_4 e5 σ4
  show RC _ _ _ [some (.ref o)] [.ref (o + 3), .ref o] σ5 _
  refine c_putr K_0_5 ?_
  obtain ⟨σ6, e6⟩ : ∃ x, x = mPr σ5 o 3 (some (o + 3)) := ⟨_, rfl⟩
  rw [← e6]
  have N_6 : σ6.2.1.length = o + 4 := by rw [e6]; exact N_5
  have T_6 : σ6.1 = σ.1 + 36 := by rw [e6]; exact T_5
  have O_6 : rOK σ6 := by rw [e6]; exact rOK_pr O_5 (by omega)
  have X_6 : Ex σ σ6 o := by rw [e6]; exact X_5.pr (by omega)
  have K_0_6 : σ6.2.1[o]? = some (6, 0) := by rw [e6]; exact K_0_5
  have K_1_6 : σ6.2.1[o + 1]? = some (20, 12) := by rw [e6]; exact K_1_5
  have K_2_6 : σ6.2.1[o + 2]? = some (20, 12) := by rw [e6]; exact K_2_5
  have K_3_6 : σ6.2.1[o + 3]? = some (22, 12) := by rw [e6]; exact K_3_5
  have G_0_1_6 : σ6.2.2.1 o 1 = some (o + 1) := by rw [e6]; exact g_prK (by decide) G_0_1_5
  have G_0_2_6 : σ6.2.2.1 o 2 = some (o + 2) := by rw [e6]; exact g_prK (by decide) G_0_2_5
  have R_0_6 : σ6.2.2.2.1 o = fun _ => 0 := by rw [e6]; exact R_0_5
  have R_1_6 : σ6.2.2.2.1 (o + 1) = fun _ => 0 := by rw [e6]; exact R_1_5
  have R_2_6 : σ6.2.2.2.1 (o + 2) = fun _ => 0 := by rw [e6]; exact R_2_5
  have R_3_6 : σ6.2.2.2.1 (o + 3) = fun _ => 0 := by rw [e6]; exact R_3_5
  have G_0_3_6 : σ6.2.2.1 o 3 = some (o + 3) := by rw [e6]; exact g_prS
  clear K_0_5 K_1_5 K_2_5 K_3_5 G_0_1_5 G_0_2_5 R_0_5 R_1_5 R_2_5 R_3_5 N_5 T_5 O_5 X_5 e6 σ5
  show RC _ _ _ [some (.ref o)] [] σ6 _
  refine c_retv (by omega) ?_
  exact ⟨X_6, by omega, T_6, O_6, ⟨K_0_6, K_1_6, K_2_6, K_3_6, G_0_1_6, G_0_2_6, G_0_3_6⟩, R_3_6⟩
set_option maxRecDepth 20000 in
set_option maxHeartbeats 4000000 in
theorem nY7_init {d : Nat} {σ : mMH} {o : Nat} (hL : σ.2.1.length = o + 1) (hO : rOK σ) (hR : σ.2.2.2.1 o = fun _ => 0) (hK : σ.2.1[o]? = some (7, 0)) (hz : o + 4 ≤ 1000000) : CC (d + 1) 107 [.ref o] σ (fun τ => Ex σ τ o ∧ τ.2.1.length = o + 1 + 3 ∧ τ.1 = σ.1 + 300 ∧ rOK τ ∧ isWays (mBo τ) o) := by
  have K_0_0 := hK
  have R_0_0 := hR
  have O_0 := hO
  have N_0 := hL
  have T_0 : σ.1 = σ.1 + 0 := rfl
  have X_0 : Ex σ σ o := Ex.rf
  refine c_begin mt_107 (by intro a ha; simp only [List.mem_cons, List.not_mem_nil, or_false] at ha; rcases ha with rfl <;> rfl) (Nat.le_of_ble_eq_true rfl) ?_
  show RC _ _ _ [some (.ref o)] [] σ _
  refine c_aload rfl ?_
  refine c_obj (Nat.le_of_ble_eq_true rfl) ?_
  refine c_aload rfl ?_
  refine c_int ?_
  refine c_newa (t := 2) (z := 100) (by decide) (by decide) (mOut_lt (ltL [o] rfl (List.forall_mem_cons.mpr ⟨by omega, (fun _ h => absurd h List.not_mem_nil)⟩)) (ltS [o] rfl (List.forall_mem_cons.mpr ⟨by omega, (fun _ h => absurd h List.not_mem_nil)⟩))) O_0 ?_
  rw [show ((100 : Int32)).toNatClampNeg = 100 by decide]
  obtain ⟨σ1, e1⟩ : ∃ x, x = mNew σ 22 100 100 := ⟨_, rfl⟩
  rw [← e1, show σ.2.1.length = o + 1 by omega]
  have N_1 : σ1.2.1.length = o + 2 := by rw [e1, len_new]; omega
  have T_1 : σ1.1 = σ.1 + 100 := by rw [e1]; show σ.1 + 100 = _; omega
  have O_1 : rOK σ1 := by rw [e1]; exact rOK_new O_0
  have X_1 : Ex σ σ1 o := by rw [e1]; exact X_0.new (by omega)
  have K_0_1 : σ1.2.1[o]? = some (7, 0) := by rw [e1]; exact k_new K_0_0
  have R_0_1 : σ1.2.2.2.1 o = fun _ => 0 := by rw [e1]; exact (mup_ne (by omega)).trans R_0_0
  have K_1_1 : σ1.2.1[o + 1]? = some (22, 100) := by rw [e1, ← show σ.2.1.length = o + 1 by omega]; exact k_newS
  have R_1_1 : σ1.2.2.2.1 (o + 1) = fun _ => 0 := by rw [e1, ← show σ.2.1.length = o + 1 by omega]; exact mup_eq
  clear K_0_0 R_0_0 N_0 T_0 O_0 X_0 e1
  show RC _ _ _ [some (.ref o)] [.ref (o + 1), .ref o] σ1 _
  refine c_putr K_0_1 ?_
  obtain ⟨σ2, e2⟩ : ∃ x, x = mPr σ1 o 1 (some (o + 1)) := ⟨_, rfl⟩
  rw [← e2]
  have N_2 : σ2.2.1.length = o + 2 := by rw [e2]; exact N_1
  have T_2 : σ2.1 = σ.1 + 100 := by rw [e2]; exact T_1
  have O_2 : rOK σ2 := by rw [e2]; exact rOK_pr O_1 (by omega)
  have X_2 : Ex σ σ2 o := by rw [e2]; exact X_1.pr (by omega)
  have K_0_2 : σ2.2.1[o]? = some (7, 0) := by rw [e2]; exact K_0_1
  have K_1_2 : σ2.2.1[o + 1]? = some (22, 100) := by rw [e2]; exact K_1_1
  have R_0_2 : σ2.2.2.2.1 o = fun _ => 0 := by rw [e2]; exact R_0_1
  have R_1_2 : σ2.2.2.2.1 (o + 1) = fun _ => 0 := by rw [e2]; exact R_1_1
  have G_0_1_2 : σ2.2.2.1 o 1 = some (o + 1) := by rw [e2]; exact g_prS
  clear K_0_1 K_1_1 R_0_1 R_1_1 N_1 T_1 O_1 X_1 e2 σ1
  show RC _ _ _ [some (.ref o)] [] σ2 _
  refine c_aload rfl ?_
  refine c_int ?_
  refine c_newa (t := 2) (z := 100) (by decide) (by decide) (mOut_lt (ltL [o] rfl (List.forall_mem_cons.mpr ⟨by omega, (fun _ h => absurd h List.not_mem_nil)⟩)) (ltS [o] rfl (List.forall_mem_cons.mpr ⟨by omega, (fun _ h => absurd h List.not_mem_nil)⟩))) O_2 ?_
  rw [show ((100 : Int32)).toNatClampNeg = 100 by decide]
  obtain ⟨σ3, e3⟩ : ∃ x, x = mNew σ2 22 100 100 := ⟨_, rfl⟩
  rw [← e3, show σ2.2.1.length = o + 2 by omega]
  have N_3 : σ3.2.1.length = o + 3 := by rw [e3, len_new]; omega
  have T_3 : σ3.1 = σ.1 + 200 := by rw [e3]; show σ2.1 + 100 = _; omega
  have O_3 : rOK σ3 := by rw [e3]; exact rOK_new O_2
  have X_3 : Ex σ σ3 o := by rw [e3]; exact X_2.new (by omega)
  have K_0_3 : σ3.2.1[o]? = some (7, 0) := by rw [e3]; exact k_new K_0_2
  have K_1_3 : σ3.2.1[o + 1]? = some (22, 100) := by rw [e3]; exact k_new K_1_2
  have G_0_1_3 : σ3.2.2.1 o 1 = some (o + 1) := by rw [e3]; exact g_new (by omega) G_0_1_2
  have R_0_3 : σ3.2.2.2.1 o = fun _ => 0 := by rw [e3]; exact (mup_ne (by omega)).trans R_0_2
  have R_1_3 : σ3.2.2.2.1 (o + 1) = fun _ => 0 := by rw [e3]; exact (mup_ne (by omega)).trans R_1_2
  have K_2_3 : σ3.2.1[o + 2]? = some (22, 100) := by rw [e3, ← show σ2.2.1.length = o + 2 by omega]; exact k_newS
  have R_2_3 : σ3.2.2.2.1 (o + 2) = fun _ => 0 := by rw [e3, ← show σ2.2.1.length = o + 2 by omega]; exact mup_eq
  clear K_0_2 K_1_2 G_0_1_2 R_0_2 R_1_2 N_2 T_2 O_2 X_2 e3 σ2
  show RC _ _ _ [some (.ref o)] [.ref (o + 2), .ref o] σ3 _
  refine c_putr K_0_3 ?_
  obtain ⟨σ4, e4⟩ : ∃ x, x = mPr σ3 o 2 (some (o + 2)) := ⟨_, rfl⟩
  rw [← e4]
  have N_4 : σ4.2.1.length = o + 3 := by rw [e4]; exact N_3
  have T_4 : σ4.1 = σ.1 + 200 := by rw [e4]; exact T_3
  have O_4 : rOK σ4 := by rw [e4]; exact rOK_pr O_3 (by omega)
  have X_4 : Ex σ σ4 o := by rw [e4]; exact X_3.pr (by omega)
  have K_0_4 : σ4.2.1[o]? = some (7, 0) := by rw [e4]; exact K_0_3
  have K_1_4 : σ4.2.1[o + 1]? = some (22, 100) := by rw [e4]; exact K_1_3
  have K_2_4 : σ4.2.1[o + 2]? = some (22, 100) := by rw [e4]; exact K_2_3
  have G_0_1_4 : σ4.2.2.1 o 1 = some (o + 1) := by rw [e4]; exact g_prK (by decide) G_0_1_3
  have R_0_4 : σ4.2.2.2.1 o = fun _ => 0 := by rw [e4]; exact R_0_3
  have R_1_4 : σ4.2.2.2.1 (o + 1) = fun _ => 0 := by rw [e4]; exact R_1_3
  have R_2_4 : σ4.2.2.2.1 (o + 2) = fun _ => 0 := by rw [e4]; exact R_2_3
  have G_0_2_4 : σ4.2.2.1 o 2 = some (o + 2) := by rw [e4]; exact g_prS
  clear K_0_3 K_1_3 K_2_3 G_0_1_3 R_0_3 R_1_3 R_2_3 N_3 T_3 O_3 X_3 e4 σ3
  show RC _ _ _ [some (.ref o)] [] σ4 _
  refine c_aload rfl ?_
  refine c_int ?_
  refine c_newa (t := 0) (z := 100) (by decide) (by decide) (mOut_lt (ltL [o] rfl (List.forall_mem_cons.mpr ⟨by omega, (fun _ h => absurd h List.not_mem_nil)⟩)) (ltS [o] rfl (List.forall_mem_cons.mpr ⟨by omega, (fun _ h => absurd h List.not_mem_nil)⟩))) O_4 ?_
  rw [show ((100 : Int32)).toNatClampNeg = 100 by decide]
  obtain ⟨σ5, e5⟩ : ∃ x, x = mNew σ4 20 100 100 := ⟨_, rfl⟩
  rw [← e5, show σ4.2.1.length = o + 3 by omega]
  have N_5 : σ5.2.1.length = o + 4 := by rw [e5, len_new]; omega
  have T_5 : σ5.1 = σ.1 + 300 := by rw [e5]; show σ4.1 + 100 = _; omega
  have O_5 : rOK σ5 := by rw [e5]; exact rOK_new O_4
  have X_5 : Ex σ σ5 o := by rw [e5]; exact X_4.new (by omega)
  have K_0_5 : σ5.2.1[o]? = some (7, 0) := by rw [e5]; exact k_new K_0_4
  have K_1_5 : σ5.2.1[o + 1]? = some (22, 100) := by rw [e5]; exact k_new K_1_4
  have K_2_5 : σ5.2.1[o + 2]? = some (22, 100) := by rw [e5]; exact k_new K_2_4
  have G_0_1_5 : σ5.2.2.1 o 1 = some (o + 1) := by rw [e5]; exact g_new (by omega) G_0_1_4
  have G_0_2_5 : σ5.2.2.1 o 2 = some (o + 2) := by rw [e5]; exact g_new (by omega) G_0_2_4
  have R_0_5 : σ5.2.2.2.1 o = fun _ => 0 := by rw [e5]; exact (mup_ne (by omega)).trans R_0_4
  have R_1_5 : σ5.2.2.2.1 (o + 1) = fun _ => 0 := by rw [e5]; exact (mup_ne (by omega)).trans R_1_4
  have R_2_5 : σ5.2.2.2.1 (o + 2) = fun _ => 0 := by rw [e5]; exact (mup_ne (by omega)).trans R_2_4
  have K_3_5 : σ5.2.1[o + 3]? = some (20, 100) := by rw [e5, ← show σ4.2.1.length = o + 3 by omega]; exact k_newS
  have R_3_5 : σ5.2.2.2.1 (o + 3) = fun _ => 0 := by rw [e5, ← show σ4.2.1.length = o + 3 by omega]; exact mup_eq
  clear K_0_4 K_1_4 K_2_4 G_0_1_4 G_0_2_4 R_0_4 R_1_4 R_2_4 N_4 T_4 O_4 X_4 e5 σ4
  show RC _ _ _ [some (.ref o)] [.ref (o + 3), .ref o] σ5 _
  refine c_putr K_0_5 ?_
  obtain ⟨σ6, e6⟩ : ∃ x, x = mPr σ5 o 3 (some (o + 3)) := ⟨_, rfl⟩
  rw [← e6]
  have N_6 : σ6.2.1.length = o + 4 := by rw [e6]; exact N_5
  have T_6 : σ6.1 = σ.1 + 300 := by rw [e6]; exact T_5
  have O_6 : rOK σ6 := by rw [e6]; exact rOK_pr O_5 (by omega)
  have X_6 : Ex σ σ6 o := by rw [e6]; exact X_5.pr (by omega)
  have K_0_6 : σ6.2.1[o]? = some (7, 0) := by rw [e6]; exact K_0_5
  have K_1_6 : σ6.2.1[o + 1]? = some (22, 100) := by rw [e6]; exact K_1_5
  have K_2_6 : σ6.2.1[o + 2]? = some (22, 100) := by rw [e6]; exact K_2_5
  have K_3_6 : σ6.2.1[o + 3]? = some (20, 100) := by rw [e6]; exact K_3_5
  have G_0_1_6 : σ6.2.2.1 o 1 = some (o + 1) := by rw [e6]; exact g_prK (by decide) G_0_1_5
  have G_0_2_6 : σ6.2.2.1 o 2 = some (o + 2) := by rw [e6]; exact g_prK (by decide) G_0_2_5
  have R_0_6 : σ6.2.2.2.1 o = fun _ => 0 := by rw [e6]; exact R_0_5
  have R_1_6 : σ6.2.2.2.1 (o + 1) = fun _ => 0 := by rw [e6]; exact R_1_5
  have R_2_6 : σ6.2.2.2.1 (o + 2) = fun _ => 0 := by rw [e6]; exact R_2_5
  have R_3_6 : σ6.2.2.2.1 (o + 3) = fun _ => 0 := by rw [e6]; exact R_3_5
  have G_0_3_6 : σ6.2.2.1 o 3 = some (o + 3) := by rw [e6]; exact g_prS
  clear K_0_5 K_1_5 K_2_5 K_3_5 G_0_1_5 G_0_2_5 R_0_5 R_1_5 R_2_5 R_3_5 N_5 T_5 O_5 X_5 e6 σ5
  show RC _ _ _ [some (.ref o)] [] σ6 _
  refine c_retv (by omega) ?_
  exact ⟨X_6, by omega, T_6, O_6, ⟨K_0_6, K_1_6, K_2_6, K_3_6, G_0_1_6, G_0_2_6, G_0_3_6⟩⟩
set_option maxRecDepth 20000 in
set_option maxHeartbeats 4000000 in
theorem nY3_init {d : Nat} {σ : mMH} {o : Nat} (hL : σ.2.1.length = o + 1) (hO : rOK σ) (hR : σ.2.2.2.1 o = fun _ => 0) (hK : σ.2.1[o]? = some (3, 0)) (hz : o + 11 ≤ 1000000) (x1 : Int32) {g : Nat} (hg : isDia (mBo σ) g) (hgo : g + 2 ≤ o) : CC (d + 2) 19 [.ref o, .int x1, .ref g] σ (fun τ => Ex σ τ o ∧ τ.2.1.length = o + 1 + 10 ∧ τ.1 = σ.1 + 198 ∧ rOK τ ∧ isMach (mBo τ) o g ∧ τ.2.2.2.1 o = upd (fun _ => 0) 0 x1 ∧ τ.2.2.2.1 (o + 7) = (fun _ => 0)) := by
  have K_0_0 := hK
  have R_0_0 := hR
  have O_0 := hO
  have N_0 := hL
  have T_0 : σ.1 = σ.1 + 0 := rfl
  have X_0 : Ex σ σ o := Ex.rf
  have S_0_0 := hg
  refine c_begin mt_19 (by intro a ha; simp only [List.mem_cons, List.not_mem_nil, or_false] at ha; rcases ha with rfl | rfl | rfl <;> rfl) (Nat.le_of_ble_eq_true rfl) ?_
  show RC _ _ _ [some (.ref o), some (.int x1), some (.ref g)] [] σ _
  refine c_aload rfl ?_
  refine c_obj (Nat.le_of_ble_eq_true rfl) ?_
  refine c_aload rfl ?_
  refine c_int ?_
  refine c_newa (t := 0) (z := 20) (by decide) (by decide) (mOut_lt (ltL [o, g] rfl (List.forall_mem_cons.mpr ⟨by omega, (List.forall_mem_cons.mpr ⟨by omega, (fun _ h => absurd h List.not_mem_nil)⟩)⟩)) (ltS [o] rfl (List.forall_mem_cons.mpr ⟨by omega, (fun _ h => absurd h List.not_mem_nil)⟩))) O_0 ?_
  rw [show ((20 : Int32)).toNatClampNeg = 20 by decide]
  obtain ⟨σ1, e1⟩ : ∃ x, x = mNew σ 20 20 20 := ⟨_, rfl⟩
  rw [← e1, show σ.2.1.length = o + 1 by omega]
  have N_1 : σ1.2.1.length = o + 2 := by rw [e1, len_new]; omega
  have T_1 : σ1.1 = σ.1 + 20 := by rw [e1]; show σ.1 + 20 = _; omega
  have O_1 : rOK σ1 := by rw [e1]; exact rOK_new O_0
  have X_1 : Ex σ σ1 o := by rw [e1]; exact X_0.new (by omega)
  have K_0_1 : σ1.2.1[o]? = some (3, 0) := by rw [e1]; exact k_new K_0_0
  have S_0_1 : isDia (mBo σ1) g := by rw [e1]; exact isDia_ext S_0_0 (fun q x h => k_new h) (fun q h1 h2 => mup_ne (by omega))
  have R_0_1 : σ1.2.2.2.1 o = fun _ => 0 := by rw [e1]; exact (mup_ne (by omega)).trans R_0_0
  have K_1_1 : σ1.2.1[o + 1]? = some (20, 20) := by rw [e1, ← show σ.2.1.length = o + 1 by omega]; exact k_newS
  have R_1_1 : σ1.2.2.2.1 (o + 1) = fun _ => 0 := by rw [e1, ← show σ.2.1.length = o + 1 by omega]; exact mup_eq
  clear K_0_0 S_0_0 R_0_0 N_0 T_0 O_0 X_0 e1
  show RC _ _ _ [some (.ref o), some (.int x1), some (.ref g)] [.ref (o + 1), .ref o] σ1 _
  refine c_putr K_0_1 ?_
  obtain ⟨σ2, e2⟩ : ∃ x, x = mPr σ1 o 2 (some (o + 1)) := ⟨_, rfl⟩
  rw [← e2]
  have N_2 : σ2.2.1.length = o + 2 := by rw [e2]; exact N_1
  have T_2 : σ2.1 = σ.1 + 20 := by rw [e2]; exact T_1
  have O_2 : rOK σ2 := by rw [e2]; exact rOK_pr O_1 (by omega)
  have X_2 : Ex σ σ2 o := by rw [e2]; exact X_1.pr (by omega)
  have K_0_2 : σ2.2.1[o]? = some (3, 0) := by rw [e2]; exact K_0_1
  have K_1_2 : σ2.2.1[o + 1]? = some (20, 20) := by rw [e2]; exact K_1_1
  have S_0_2 : isDia (mBo σ2) g := by rw [e2]; exact isDia_ext S_0_1 (fun q x h => h) (fun q h1 h2 => mup_ne (by omega))
  have R_0_2 : σ2.2.2.2.1 o = fun _ => 0 := by rw [e2]; exact R_0_1
  have R_1_2 : σ2.2.2.2.1 (o + 1) = fun _ => 0 := by rw [e2]; exact R_1_1
  have G_0_2_2 : σ2.2.2.1 o 2 = some (o + 1) := by rw [e2]; exact g_prS
  clear K_0_1 K_1_1 S_0_1 R_0_1 R_1_1 N_1 T_1 O_1 X_1 e2 σ1
  show RC _ _ _ [some (.ref o), some (.int x1), some (.ref g)] [] σ2 _
  refine c_aload rfl ?_
  refine c_int ?_
  refine c_newa (t := 0) (z := 20) (by decide) (by decide) (mOut_lt (ltL [o, g] rfl (List.forall_mem_cons.mpr ⟨by omega, (List.forall_mem_cons.mpr ⟨by omega, (fun _ h => absurd h List.not_mem_nil)⟩)⟩)) (ltS [o] rfl (List.forall_mem_cons.mpr ⟨by omega, (fun _ h => absurd h List.not_mem_nil)⟩))) O_2 ?_
  rw [show ((20 : Int32)).toNatClampNeg = 20 by decide]
  obtain ⟨σ3, e3⟩ : ∃ x, x = mNew σ2 20 20 20 := ⟨_, rfl⟩
  rw [← e3, show σ2.2.1.length = o + 2 by omega]
  have N_3 : σ3.2.1.length = o + 3 := by rw [e3, len_new]; omega
  have T_3 : σ3.1 = σ.1 + 40 := by rw [e3]; show σ2.1 + 20 = _; omega
  have O_3 : rOK σ3 := by rw [e3]; exact rOK_new O_2
  have X_3 : Ex σ σ3 o := by rw [e3]; exact X_2.new (by omega)
  have K_0_3 : σ3.2.1[o]? = some (3, 0) := by rw [e3]; exact k_new K_0_2
  have K_1_3 : σ3.2.1[o + 1]? = some (20, 20) := by rw [e3]; exact k_new K_1_2
  have G_0_2_3 : σ3.2.2.1 o 2 = some (o + 1) := by rw [e3]; exact g_new (by omega) G_0_2_2
  have S_0_3 : isDia (mBo σ3) g := by rw [e3]; exact isDia_ext S_0_2 (fun q x h => k_new h) (fun q h1 h2 => mup_ne (by omega))
  have R_0_3 : σ3.2.2.2.1 o = fun _ => 0 := by rw [e3]; exact (mup_ne (by omega)).trans R_0_2
  have R_1_3 : σ3.2.2.2.1 (o + 1) = fun _ => 0 := by rw [e3]; exact (mup_ne (by omega)).trans R_1_2
  have K_2_3 : σ3.2.1[o + 2]? = some (20, 20) := by rw [e3, ← show σ2.2.1.length = o + 2 by omega]; exact k_newS
  have R_2_3 : σ3.2.2.2.1 (o + 2) = fun _ => 0 := by rw [e3, ← show σ2.2.1.length = o + 2 by omega]; exact mup_eq
  clear K_0_2 K_1_2 G_0_2_2 S_0_2 R_0_2 R_1_2 N_2 T_2 O_2 X_2 e3 σ2
  show RC _ _ _ [some (.ref o), some (.int x1), some (.ref g)] [.ref (o + 2), .ref o] σ3 _
  refine c_putr K_0_3 ?_
  obtain ⟨σ4, e4⟩ : ∃ x, x = mPr σ3 o 3 (some (o + 2)) := ⟨_, rfl⟩
  rw [← e4]
  have N_4 : σ4.2.1.length = o + 3 := by rw [e4]; exact N_3
  have T_4 : σ4.1 = σ.1 + 40 := by rw [e4]; exact T_3
  have O_4 : rOK σ4 := by rw [e4]; exact rOK_pr O_3 (by omega)
  have X_4 : Ex σ σ4 o := by rw [e4]; exact X_3.pr (by omega)
  have K_0_4 : σ4.2.1[o]? = some (3, 0) := by rw [e4]; exact K_0_3
  have K_1_4 : σ4.2.1[o + 1]? = some (20, 20) := by rw [e4]; exact K_1_3
  have K_2_4 : σ4.2.1[o + 2]? = some (20, 20) := by rw [e4]; exact K_2_3
  have G_0_2_4 : σ4.2.2.1 o 2 = some (o + 1) := by rw [e4]; exact g_prK (by decide) G_0_2_3
  have S_0_4 : isDia (mBo σ4) g := by rw [e4]; exact isDia_ext S_0_3 (fun q x h => h) (fun q h1 h2 => mup_ne (by omega))
  have R_0_4 : σ4.2.2.2.1 o = fun _ => 0 := by rw [e4]; exact R_0_3
  have R_1_4 : σ4.2.2.2.1 (o + 1) = fun _ => 0 := by rw [e4]; exact R_1_3
  have R_2_4 : σ4.2.2.2.1 (o + 2) = fun _ => 0 := by rw [e4]; exact R_2_3
  have G_0_3_4 : σ4.2.2.1 o 3 = some (o + 2) := by rw [e4]; exact g_prS
  clear K_0_3 K_1_3 K_2_3 G_0_2_3 S_0_3 R_0_3 R_1_3 R_2_3 N_3 T_3 O_3 X_3 e4 σ3
  show RC _ _ _ [some (.ref o), some (.int x1), some (.ref g)] [] σ4 _
  refine c_aload rfl ?_
  refine c_int ?_
  refine c_newa (t := 0) (z := 96) (by decide) (by decide) (mOut_lt (ltL [o, g] rfl (List.forall_mem_cons.mpr ⟨by omega, (List.forall_mem_cons.mpr ⟨by omega, (fun _ h => absurd h List.not_mem_nil)⟩)⟩)) (ltS [o] rfl (List.forall_mem_cons.mpr ⟨by omega, (fun _ h => absurd h List.not_mem_nil)⟩))) O_4 ?_
  rw [show ((96 : Int32)).toNatClampNeg = 96 by decide]
  obtain ⟨σ5, e5⟩ : ∃ x, x = mNew σ4 20 96 96 := ⟨_, rfl⟩
  rw [← e5, show σ4.2.1.length = o + 3 by omega]
  have N_5 : σ5.2.1.length = o + 4 := by rw [e5, len_new]; omega
  have T_5 : σ5.1 = σ.1 + 136 := by rw [e5]; show σ4.1 + 96 = _; omega
  have O_5 : rOK σ5 := by rw [e5]; exact rOK_new O_4
  have X_5 : Ex σ σ5 o := by rw [e5]; exact X_4.new (by omega)
  have K_0_5 : σ5.2.1[o]? = some (3, 0) := by rw [e5]; exact k_new K_0_4
  have K_1_5 : σ5.2.1[o + 1]? = some (20, 20) := by rw [e5]; exact k_new K_1_4
  have K_2_5 : σ5.2.1[o + 2]? = some (20, 20) := by rw [e5]; exact k_new K_2_4
  have G_0_2_5 : σ5.2.2.1 o 2 = some (o + 1) := by rw [e5]; exact g_new (by omega) G_0_2_4
  have G_0_3_5 : σ5.2.2.1 o 3 = some (o + 2) := by rw [e5]; exact g_new (by omega) G_0_3_4
  have S_0_5 : isDia (mBo σ5) g := by rw [e5]; exact isDia_ext S_0_4 (fun q x h => k_new h) (fun q h1 h2 => mup_ne (by omega))
  have R_0_5 : σ5.2.2.2.1 o = fun _ => 0 := by rw [e5]; exact (mup_ne (by omega)).trans R_0_4
  have R_1_5 : σ5.2.2.2.1 (o + 1) = fun _ => 0 := by rw [e5]; exact (mup_ne (by omega)).trans R_1_4
  have R_2_5 : σ5.2.2.2.1 (o + 2) = fun _ => 0 := by rw [e5]; exact (mup_ne (by omega)).trans R_2_4
  have K_3_5 : σ5.2.1[o + 3]? = some (20, 96) := by rw [e5, ← show σ4.2.1.length = o + 3 by omega]; exact k_newS
  have R_3_5 : σ5.2.2.2.1 (o + 3) = fun _ => 0 := by rw [e5, ← show σ4.2.1.length = o + 3 by omega]; exact mup_eq
  clear K_0_4 K_1_4 K_2_4 G_0_2_4 G_0_3_4 S_0_4 R_0_4 R_1_4 R_2_4 N_4 T_4 O_4 X_4 e5 σ4
  show RC _ _ _ [some (.ref o), some (.int x1), some (.ref g)] [.ref (o + 3), .ref o] σ5 _
  refine c_putr K_0_5 ?_
  obtain ⟨σ6, e6⟩ : ∃ x, x = mPr σ5 o 4 (some (o + 3)) := ⟨_, rfl⟩
  rw [← e6]
  have N_6 : σ6.2.1.length = o + 4 := by rw [e6]; exact N_5
  have T_6 : σ6.1 = σ.1 + 136 := by rw [e6]; exact T_5
  have O_6 : rOK σ6 := by rw [e6]; exact rOK_pr O_5 (by omega)
  have X_6 : Ex σ σ6 o := by rw [e6]; exact X_5.pr (by omega)
  have K_0_6 : σ6.2.1[o]? = some (3, 0) := by rw [e6]; exact K_0_5
  have K_1_6 : σ6.2.1[o + 1]? = some (20, 20) := by rw [e6]; exact K_1_5
  have K_2_6 : σ6.2.1[o + 2]? = some (20, 20) := by rw [e6]; exact K_2_5
  have K_3_6 : σ6.2.1[o + 3]? = some (20, 96) := by rw [e6]; exact K_3_5
  have G_0_2_6 : σ6.2.2.1 o 2 = some (o + 1) := by rw [e6]; exact g_prK (by decide) G_0_2_5
  have G_0_3_6 : σ6.2.2.1 o 3 = some (o + 2) := by rw [e6]; exact g_prK (by decide) G_0_3_5
  have S_0_6 : isDia (mBo σ6) g := by rw [e6]; exact isDia_ext S_0_5 (fun q x h => h) (fun q h1 h2 => mup_ne (by omega))
  have R_0_6 : σ6.2.2.2.1 o = fun _ => 0 := by rw [e6]; exact R_0_5
  have R_1_6 : σ6.2.2.2.1 (o + 1) = fun _ => 0 := by rw [e6]; exact R_1_5
  have R_2_6 : σ6.2.2.2.1 (o + 2) = fun _ => 0 := by rw [e6]; exact R_2_5
  have R_3_6 : σ6.2.2.2.1 (o + 3) = fun _ => 0 := by rw [e6]; exact R_3_5
  have G_0_4_6 : σ6.2.2.1 o 4 = some (o + 3) := by rw [e6]; exact g_prS
  clear K_0_5 K_1_5 K_2_5 K_3_5 G_0_2_5 G_0_3_5 S_0_5 R_0_5 R_1_5 R_2_5 R_3_5 N_5 T_5 O_5 X_5 e6 σ5
  show RC _ _ _ [some (.ref o), some (.int x1), some (.ref g)] [] σ6 _
  refine c_aload rfl ?_
  refine c_new (k := 6) (mOut_lt (ltL [o, g] rfl (List.forall_mem_cons.mpr ⟨by omega, (List.forall_mem_cons.mpr ⟨by omega, (fun _ h => absurd h List.not_mem_nil)⟩)⟩)) (ltS [o] rfl (List.forall_mem_cons.mpr ⟨by omega, (fun _ h => absurd h List.not_mem_nil)⟩))) O_6 ?_
  obtain ⟨σ7, e7⟩ : ∃ x, x = mNew σ6 6 0 (mFt.getD 6 []).length := ⟨_, rfl⟩
  rw [← e7, show σ6.2.1.length = o + 4 by omega]
  have N_7 : σ7.2.1.length = o + 5 := by rw [e7, len_new]; omega
  have T_7 : σ7.1 = σ.1 + 140 := by rw [e7]; show σ6.1 + 4 = _; omega
  have O_7 : rOK σ7 := by rw [e7]; exact rOK_new O_6
  have X_7 : Ex σ σ7 o := by rw [e7]; exact X_6.new (by omega)
  have K_0_7 : σ7.2.1[o]? = some (3, 0) := by rw [e7]; exact k_new K_0_6
  have K_1_7 : σ7.2.1[o + 1]? = some (20, 20) := by rw [e7]; exact k_new K_1_6
  have K_2_7 : σ7.2.1[o + 2]? = some (20, 20) := by rw [e7]; exact k_new K_2_6
  have K_3_7 : σ7.2.1[o + 3]? = some (20, 96) := by rw [e7]; exact k_new K_3_6
  have G_0_2_7 : σ7.2.2.1 o 2 = some (o + 1) := by rw [e7]; exact g_new (by omega) G_0_2_6
  have G_0_3_7 : σ7.2.2.1 o 3 = some (o + 2) := by rw [e7]; exact g_new (by omega) G_0_3_6
  have G_0_4_7 : σ7.2.2.1 o 4 = some (o + 3) := by rw [e7]; exact g_new (by omega) G_0_4_6
  have S_0_7 : isDia (mBo σ7) g := by rw [e7]; exact isDia_ext S_0_6 (fun q x h => k_new h) (fun q h1 h2 => mup_ne (by omega))
  have R_0_7 : σ7.2.2.2.1 o = fun _ => 0 := by rw [e7]; exact (mup_ne (by omega)).trans R_0_6
  have R_1_7 : σ7.2.2.2.1 (o + 1) = fun _ => 0 := by rw [e7]; exact (mup_ne (by omega)).trans R_1_6
  have R_2_7 : σ7.2.2.2.1 (o + 2) = fun _ => 0 := by rw [e7]; exact (mup_ne (by omega)).trans R_2_6
  have R_3_7 : σ7.2.2.2.1 (o + 3) = fun _ => 0 := by rw [e7]; exact (mup_ne (by omega)).trans R_3_6
  have K_4_7 : σ7.2.1[o + 4]? = some (6, 0) := by rw [e7, ← show σ6.2.1.length = o + 4 by omega]; exact k_newS
  have R_4_7 : σ7.2.2.2.1 (o + 4) = fun _ => 0 := by rw [e7, ← show σ6.2.1.length = o + 4 by omega]; exact mup_eq
  clear K_0_6 K_1_6 K_2_6 K_3_6 G_0_2_6 G_0_3_6 G_0_4_6 S_0_6 R_0_6 R_1_6 R_2_6 R_3_6 N_6 T_6 O_6 X_6 e7 σ6
  show RC _ _ _ [some (.ref o), some (.int x1), some (.ref g)] [.ref (o + 4), .ref o] σ7 _
  refine c_dup rfl ?_
  refine c_call (o := o + 4) (as := []) (st := [.ref (o + 4), .ref o]) (rfl) rfl (Nat.le_of_ble_eq_true rfl) (Or.inr rfl) (ltL [o, g] rfl (List.forall_mem_cons.mpr ⟨by omega, (List.forall_mem_cons.mpr ⟨by omega, (fun _ h => absurd h List.not_mem_nil)⟩)⟩)) (ltS [o + 4, o] rfl (List.forall_mem_cons.mpr ⟨by omega, (List.forall_mem_cons.mpr ⟨by omega, (fun _ h => absurd h List.not_mem_nil)⟩)⟩)) (nY6_init (by omega) O_7 R_4_7 K_4_7 (by omega)) (fun σ8 Z_8 => ?_)
  obtain ⟨E_8, NN_8, TT_8, O_8, Y0_8, Y1_8⟩ := Z_8
  have N_8 : σ8.2.1.length = o + 8 := by omega
  have T_8 : σ8.1 = σ.1 + 176 := by omega
  have X_8 : Ex σ σ8 o := X_7.call E_8 (by omega)
  have K_0_8 : σ8.2.1[o]? = some (3, 0) := E_8.1 _ _ K_0_7
  have K_1_8 : σ8.2.1[o + 1]? = some (20, 20) := E_8.1 _ _ K_1_7
  have K_2_8 : σ8.2.1[o + 2]? = some (20, 20) := E_8.1 _ _ K_2_7
  have K_3_8 : σ8.2.1[o + 3]? = some (20, 96) := E_8.1 _ _ K_3_7
  have K_4_8 : σ8.2.1[o + 4]? = some (6, 0) := E_8.1 _ _ K_4_7
  have G_0_2_8 : σ8.2.2.1 o 2 = some (o + 1) := by rw [(E_8.2 _ (by omega) (by omega)).1]; exact G_0_2_7
  have G_0_3_8 : σ8.2.2.1 o 3 = some (o + 2) := by rw [(E_8.2 _ (by omega) (by omega)).1]; exact G_0_3_7
  have G_0_4_8 : σ8.2.2.1 o 4 = some (o + 3) := by rw [(E_8.2 _ (by omega) (by omega)).1]; exact G_0_4_7
  have S_0_8 : isDia (mBo σ8) g := isDia_ext S_0_7 E_8.1 (fun q h1 h2 => (E_8.2 q (by omega) (by omega)).1)
  have R_0_8 : σ8.2.2.2.1 o = fun _ => 0 := by rw [(E_8.2 _ (by omega) (by omega)).2.1]; exact R_0_7
  have R_1_8 : σ8.2.2.2.1 (o + 1) = fun _ => 0 := by rw [(E_8.2 _ (by omega) (by omega)).2.1]; exact R_1_7
  have R_2_8 : σ8.2.2.2.1 (o + 2) = fun _ => 0 := by rw [(E_8.2 _ (by omega) (by omega)).2.1]; exact R_2_7
  have R_3_8 : σ8.2.2.2.1 (o + 3) = fun _ => 0 := by rw [(E_8.2 _ (by omega) (by omega)).2.1]; exact R_3_7
  have S_1_8 : isTim (mBo σ8) (o + 4) := Y0_8
  have R_7_8 : σ8.2.2.2.1 (o + 7) = fun _ => 0 := Y1_8
  clear K_0_7 K_1_7 K_2_7 K_3_7 K_4_7 G_0_2_7 G_0_3_7 G_0_4_7 S_0_7 R_0_7 R_1_7 R_2_7 R_3_7 R_4_7 N_7 T_7 O_7 X_7 E_8 NN_8 TT_8 Y0_8 Y1_8 σ7
  show RC _ _ _ [some (.ref o), some (.int x1), some (.ref g)] [.ref (o + 4), .ref o] σ8 _
  refine c_putr K_0_8 ?_
  obtain ⟨σ9, e9⟩ : ∃ x, x = mPr σ8 o 5 (some (o + 4)) := ⟨_, rfl⟩
  rw [← e9]
  have N_9 : σ9.2.1.length = o + 8 := by rw [e9]; exact N_8
  have T_9 : σ9.1 = σ.1 + 176 := by rw [e9]; exact T_8
  have O_9 : rOK σ9 := by rw [e9]; exact rOK_pr O_8 (by omega)
  have X_9 : Ex σ σ9 o := by rw [e9]; exact X_8.pr (by omega)
  have K_0_9 : σ9.2.1[o]? = some (3, 0) := by rw [e9]; exact K_0_8
  have K_1_9 : σ9.2.1[o + 1]? = some (20, 20) := by rw [e9]; exact K_1_8
  have K_2_9 : σ9.2.1[o + 2]? = some (20, 20) := by rw [e9]; exact K_2_8
  have K_3_9 : σ9.2.1[o + 3]? = some (20, 96) := by rw [e9]; exact K_3_8
  have K_4_9 : σ9.2.1[o + 4]? = some (6, 0) := by rw [e9]; exact K_4_8
  have G_0_2_9 : σ9.2.2.1 o 2 = some (o + 1) := by rw [e9]; exact g_prK (by decide) G_0_2_8
  have G_0_3_9 : σ9.2.2.1 o 3 = some (o + 2) := by rw [e9]; exact g_prK (by decide) G_0_3_8
  have G_0_4_9 : σ9.2.2.1 o 4 = some (o + 3) := by rw [e9]; exact g_prK (by decide) G_0_4_8
  have S_0_9 : isDia (mBo σ9) g := by rw [e9]; exact isDia_ext S_0_8 (fun q x h => h) (fun q h1 h2 => mup_ne (by omega))
  have S_1_9 : isTim (mBo σ9) (o + 4) := by rw [e9]; exact isTim_ext S_1_8 (fun q x h => h) (fun q h1 h2 => mup_ne (by omega))
  have R_0_9 : σ9.2.2.2.1 o = fun _ => 0 := by rw [e9]; exact R_0_8
  have R_1_9 : σ9.2.2.2.1 (o + 1) = fun _ => 0 := by rw [e9]; exact R_1_8
  have R_2_9 : σ9.2.2.2.1 (o + 2) = fun _ => 0 := by rw [e9]; exact R_2_8
  have R_3_9 : σ9.2.2.2.1 (o + 3) = fun _ => 0 := by rw [e9]; exact R_3_8
  have R_7_9 : σ9.2.2.2.1 (o + 7) = fun _ => 0 := by rw [e9]; exact R_7_8
  have G_0_5_9 : σ9.2.2.1 o 5 = some (o + 4) := by rw [e9]; exact g_prS
  clear K_0_8 K_1_8 K_2_8 K_3_8 K_4_8 G_0_2_8 G_0_3_8 G_0_4_8 S_0_8 S_1_8 R_0_8 R_1_8 R_2_8 R_3_8 R_7_8 N_8 T_8 O_8 X_8 e9 σ8
  show RC _ _ _ [some (.ref o), some (.int x1), some (.ref g)] [] σ9 _
  refine c_aload rfl ?_
  refine c_int ?_
  refine c_newr (t := 4) (z := 2) (by decide) (by decide) (mOut_lt (ltL [o, g] rfl (List.forall_mem_cons.mpr ⟨by omega, (List.forall_mem_cons.mpr ⟨by omega, (fun _ h => absurd h List.not_mem_nil)⟩)⟩)) (ltS [o] rfl (List.forall_mem_cons.mpr ⟨by omega, (fun _ h => absurd h List.not_mem_nil)⟩))) O_9 ?_
  rw [show ((2 : Int32)).toNatClampNeg = 2 by decide]
  obtain ⟨σ10, e10⟩ : ∃ x, x = mNew σ9 24 2 2 := ⟨_, rfl⟩
  rw [← e10, show σ9.2.1.length = o + 8 by omega]
  have N_10 : σ10.2.1.length = o + 9 := by rw [e10, len_new]; omega
  have T_10 : σ10.1 = σ.1 + 178 := by rw [e10]; show σ9.1 + 2 = _; omega
  have O_10 : rOK σ10 := by rw [e10]; exact rOK_new O_9
  have X_10 : Ex σ σ10 o := by rw [e10]; exact X_9.new (by omega)
  have K_0_10 : σ10.2.1[o]? = some (3, 0) := by rw [e10]; exact k_new K_0_9
  have K_1_10 : σ10.2.1[o + 1]? = some (20, 20) := by rw [e10]; exact k_new K_1_9
  have K_2_10 : σ10.2.1[o + 2]? = some (20, 20) := by rw [e10]; exact k_new K_2_9
  have K_3_10 : σ10.2.1[o + 3]? = some (20, 96) := by rw [e10]; exact k_new K_3_9
  have K_4_10 : σ10.2.1[o + 4]? = some (6, 0) := by rw [e10]; exact k_new K_4_9
  have G_0_2_10 : σ10.2.2.1 o 2 = some (o + 1) := by rw [e10]; exact g_new (by omega) G_0_2_9
  have G_0_3_10 : σ10.2.2.1 o 3 = some (o + 2) := by rw [e10]; exact g_new (by omega) G_0_3_9
  have G_0_4_10 : σ10.2.2.1 o 4 = some (o + 3) := by rw [e10]; exact g_new (by omega) G_0_4_9
  have G_0_5_10 : σ10.2.2.1 o 5 = some (o + 4) := by rw [e10]; exact g_new (by omega) G_0_5_9
  have S_0_10 : isDia (mBo σ10) g := by rw [e10]; exact isDia_ext S_0_9 (fun q x h => k_new h) (fun q h1 h2 => mup_ne (by omega))
  have S_1_10 : isTim (mBo σ10) (o + 4) := by rw [e10]; exact isTim_ext S_1_9 (fun q x h => k_new h) (fun q h1 h2 => mup_ne (by omega))
  have R_0_10 : σ10.2.2.2.1 o = fun _ => 0 := by rw [e10]; exact (mup_ne (by omega)).trans R_0_9
  have R_1_10 : σ10.2.2.2.1 (o + 1) = fun _ => 0 := by rw [e10]; exact (mup_ne (by omega)).trans R_1_9
  have R_2_10 : σ10.2.2.2.1 (o + 2) = fun _ => 0 := by rw [e10]; exact (mup_ne (by omega)).trans R_2_9
  have R_3_10 : σ10.2.2.2.1 (o + 3) = fun _ => 0 := by rw [e10]; exact (mup_ne (by omega)).trans R_3_9
  have R_7_10 : σ10.2.2.2.1 (o + 7) = fun _ => 0 := by rw [e10]; exact (mup_ne (by omega)).trans R_7_9
  have K_8_10 : σ10.2.1[o + 8]? = some (24, 2) := by rw [e10, ← show σ9.2.1.length = o + 8 by omega]; exact k_newS
  have R_8_10 : σ10.2.2.2.1 (o + 8) = fun _ => 0 := by rw [e10, ← show σ9.2.1.length = o + 8 by omega]; exact mup_eq
  clear K_0_9 K_1_9 K_2_9 K_3_9 K_4_9 G_0_2_9 G_0_3_9 G_0_4_9 G_0_5_9 S_0_9 S_1_9 R_0_9 R_1_9 R_2_9 R_3_9 R_7_9 N_9 T_9 O_9 X_9 e10 σ9
  show RC _ _ _ [some (.ref o), some (.int x1), some (.ref g)] [.ref (o + 8), .ref o] σ10 _
  refine c_dup rfl ?_
  refine c_int ?_
  refine c_new (k := 2) (mOut_lt (ltL [o, g] rfl (List.forall_mem_cons.mpr ⟨by omega, (List.forall_mem_cons.mpr ⟨by omega, (fun _ h => absurd h List.not_mem_nil)⟩)⟩)) (ltS [o + 8, o + 8, o] rfl (List.forall_mem_cons.mpr ⟨by omega, (List.forall_mem_cons.mpr ⟨by omega, (List.forall_mem_cons.mpr ⟨by omega, (fun _ h => absurd h List.not_mem_nil)⟩)⟩)⟩))) O_10 ?_
  obtain ⟨σ11, e11⟩ : ∃ x, x = mNew σ10 2 0 (mFt.getD 2 []).length := ⟨_, rfl⟩
  rw [← e11, show σ10.2.1.length = o + 9 by omega]
  have N_11 : σ11.2.1.length = o + 10 := by rw [e11, len_new]; omega
  have T_11 : σ11.1 = σ.1 + 188 := by rw [e11]; show σ10.1 + 10 = _; omega
  have O_11 : rOK σ11 := by rw [e11]; exact rOK_new O_10
  have X_11 : Ex σ σ11 o := by rw [e11]; exact X_10.new (by omega)
  have K_0_11 : σ11.2.1[o]? = some (3, 0) := by rw [e11]; exact k_new K_0_10
  have K_1_11 : σ11.2.1[o + 1]? = some (20, 20) := by rw [e11]; exact k_new K_1_10
  have K_2_11 : σ11.2.1[o + 2]? = some (20, 20) := by rw [e11]; exact k_new K_2_10
  have K_3_11 : σ11.2.1[o + 3]? = some (20, 96) := by rw [e11]; exact k_new K_3_10
  have K_4_11 : σ11.2.1[o + 4]? = some (6, 0) := by rw [e11]; exact k_new K_4_10
  have K_8_11 : σ11.2.1[o + 8]? = some (24, 2) := by rw [e11]; exact k_new K_8_10
  have G_0_2_11 : σ11.2.2.1 o 2 = some (o + 1) := by rw [e11]; exact g_new (by omega) G_0_2_10
  have G_0_3_11 : σ11.2.2.1 o 3 = some (o + 2) := by rw [e11]; exact g_new (by omega) G_0_3_10
  have G_0_4_11 : σ11.2.2.1 o 4 = some (o + 3) := by rw [e11]; exact g_new (by omega) G_0_4_10
  have G_0_5_11 : σ11.2.2.1 o 5 = some (o + 4) := by rw [e11]; exact g_new (by omega) G_0_5_10
  have S_0_11 : isDia (mBo σ11) g := by rw [e11]; exact isDia_ext S_0_10 (fun q x h => k_new h) (fun q h1 h2 => mup_ne (by omega))
  have S_1_11 : isTim (mBo σ11) (o + 4) := by rw [e11]; exact isTim_ext S_1_10 (fun q x h => k_new h) (fun q h1 h2 => mup_ne (by omega))
  have R_0_11 : σ11.2.2.2.1 o = fun _ => 0 := by rw [e11]; exact (mup_ne (by omega)).trans R_0_10
  have R_1_11 : σ11.2.2.2.1 (o + 1) = fun _ => 0 := by rw [e11]; exact (mup_ne (by omega)).trans R_1_10
  have R_2_11 : σ11.2.2.2.1 (o + 2) = fun _ => 0 := by rw [e11]; exact (mup_ne (by omega)).trans R_2_10
  have R_3_11 : σ11.2.2.2.1 (o + 3) = fun _ => 0 := by rw [e11]; exact (mup_ne (by omega)).trans R_3_10
  have R_7_11 : σ11.2.2.2.1 (o + 7) = fun _ => 0 := by rw [e11]; exact (mup_ne (by omega)).trans R_7_10
  have R_8_11 : σ11.2.2.2.1 (o + 8) = fun _ => 0 := by rw [e11]; exact (mup_ne (by omega)).trans R_8_10
  have K_9_11 : σ11.2.1[o + 9]? = some (2, 0) := by rw [e11, ← show σ10.2.1.length = o + 9 by omega]; exact k_newS
  have R_9_11 : σ11.2.2.2.1 (o + 9) = fun _ => 0 := by rw [e11, ← show σ10.2.1.length = o + 9 by omega]; exact mup_eq
  clear K_0_10 K_1_10 K_2_10 K_3_10 K_4_10 K_8_10 G_0_2_10 G_0_3_10 G_0_4_10 G_0_5_10 S_0_10 S_1_10 R_0_10 R_1_10 R_2_10 R_3_10 R_7_10 R_8_10 N_10 T_10 O_10 X_10 e11 σ10
  show RC _ _ _ [some (.ref o), some (.int x1), some (.ref g)] [.ref (o + 9), .int 0, .ref (o + 8), .ref (o + 8), .ref o] σ11 _
  refine c_dup rfl ?_
  refine c_call (o := o + 9) (as := []) (st := [.ref (o + 9), .int 0, .ref (o + 8), .ref (o + 8), .ref o]) (rfl) rfl (Nat.le_of_ble_eq_true rfl) (Or.inr rfl) (ltL [o, g] rfl (List.forall_mem_cons.mpr ⟨by omega, (List.forall_mem_cons.mpr ⟨by omega, (fun _ h => absurd h List.not_mem_nil)⟩)⟩)) (ltS [o + 9, o + 8, o + 8, o] rfl (List.forall_mem_cons.mpr ⟨by omega, (List.forall_mem_cons.mpr ⟨by omega, (List.forall_mem_cons.mpr ⟨by omega, (List.forall_mem_cons.mpr ⟨by omega, (fun _ h => absurd h List.not_mem_nil)⟩)⟩)⟩)⟩)) (nY2_init (by omega) O_11 R_9_11 K_9_11 (by omega)) (fun σ12 Z_12 => ?_)
  obtain ⟨E_12, NN_12, TT_12, O_12⟩ := Z_12
  have N_12 : σ12.2.1.length = o + 10 := by omega
  have T_12 : σ12.1 = σ.1 + 188 := by omega
  have X_12 : Ex σ σ12 o := X_11.call E_12 (by omega)
  have K_0_12 : σ12.2.1[o]? = some (3, 0) := E_12.1 _ _ K_0_11
  have K_1_12 : σ12.2.1[o + 1]? = some (20, 20) := E_12.1 _ _ K_1_11
  have K_2_12 : σ12.2.1[o + 2]? = some (20, 20) := E_12.1 _ _ K_2_11
  have K_3_12 : σ12.2.1[o + 3]? = some (20, 96) := E_12.1 _ _ K_3_11
  have K_4_12 : σ12.2.1[o + 4]? = some (6, 0) := E_12.1 _ _ K_4_11
  have K_8_12 : σ12.2.1[o + 8]? = some (24, 2) := E_12.1 _ _ K_8_11
  have K_9_12 : σ12.2.1[o + 9]? = some (2, 0) := E_12.1 _ _ K_9_11
  have G_0_2_12 : σ12.2.2.1 o 2 = some (o + 1) := by rw [(E_12.2 _ (by omega) (by omega)).1]; exact G_0_2_11
  have G_0_3_12 : σ12.2.2.1 o 3 = some (o + 2) := by rw [(E_12.2 _ (by omega) (by omega)).1]; exact G_0_3_11
  have G_0_4_12 : σ12.2.2.1 o 4 = some (o + 3) := by rw [(E_12.2 _ (by omega) (by omega)).1]; exact G_0_4_11
  have G_0_5_12 : σ12.2.2.1 o 5 = some (o + 4) := by rw [(E_12.2 _ (by omega) (by omega)).1]; exact G_0_5_11
  have S_0_12 : isDia (mBo σ12) g := isDia_ext S_0_11 E_12.1 (fun q h1 h2 => (E_12.2 q (by omega) (by omega)).1)
  have S_1_12 : isTim (mBo σ12) (o + 4) := isTim_ext S_1_11 E_12.1 (fun q h1 h2 => (E_12.2 q (by omega) (by omega)).1)
  have R_0_12 : σ12.2.2.2.1 o = fun _ => 0 := by rw [(E_12.2 _ (by omega) (by omega)).2.1]; exact R_0_11
  have R_1_12 : σ12.2.2.2.1 (o + 1) = fun _ => 0 := by rw [(E_12.2 _ (by omega) (by omega)).2.1]; exact R_1_11
  have R_2_12 : σ12.2.2.2.1 (o + 2) = fun _ => 0 := by rw [(E_12.2 _ (by omega) (by omega)).2.1]; exact R_2_11
  have R_3_12 : σ12.2.2.2.1 (o + 3) = fun _ => 0 := by rw [(E_12.2 _ (by omega) (by omega)).2.1]; exact R_3_11
  have R_7_12 : σ12.2.2.2.1 (o + 7) = fun _ => 0 := by rw [(E_12.2 _ (by omega) (by omega)).2.1]; exact R_7_11
  have R_8_12 : σ12.2.2.2.1 (o + 8) = fun _ => 0 := by rw [(E_12.2 _ (by omega) (by omega)).2.1]; exact R_8_11
  clear K_0_11 K_1_11 K_2_11 K_3_11 K_4_11 K_8_11 K_9_11 G_0_2_11 G_0_3_11 G_0_4_11 G_0_5_11 S_0_11 S_1_11 R_0_11 R_1_11 R_2_11 R_3_11 R_7_11 R_8_11 R_9_11 N_11 T_11 O_11 X_11 E_12 NN_12 TT_12 σ11
  show RC _ _ _ [some (.ref o), some (.int x1), some (.ref g)] [.ref (o + 9), .int 0, .ref (o + 8), .ref (o + 8), .ref o] σ12 _
  refine c_ast K_8_12 (Or.inl rfl) K_9_12 (lt_in 0 2 rfl rfl) ?_
  rw [show ((0 : Int32)).toNatClampNeg = 0 by decide]
  obtain ⟨σ13, e13⟩ : ∃ x, x = mPr σ12 (o + 8) 0 (some (o + 9)) := ⟨_, rfl⟩
  rw [← e13]
  have N_13 : σ13.2.1.length = o + 10 := by rw [e13]; exact N_12
  have T_13 : σ13.1 = σ.1 + 188 := by rw [e13]; exact T_12
  have O_13 : rOK σ13 := by rw [e13]; exact rOK_pr O_12 (by omega)
  have X_13 : Ex σ σ13 o := by rw [e13]; exact X_12.pr (by omega)
  have K_0_13 : σ13.2.1[o]? = some (3, 0) := by rw [e13]; exact K_0_12
  have K_1_13 : σ13.2.1[o + 1]? = some (20, 20) := by rw [e13]; exact K_1_12
  have K_2_13 : σ13.2.1[o + 2]? = some (20, 20) := by rw [e13]; exact K_2_12
  have K_3_13 : σ13.2.1[o + 3]? = some (20, 96) := by rw [e13]; exact K_3_12
  have K_4_13 : σ13.2.1[o + 4]? = some (6, 0) := by rw [e13]; exact K_4_12
  have K_8_13 : σ13.2.1[o + 8]? = some (24, 2) := by rw [e13]; exact K_8_12
  have K_9_13 : σ13.2.1[o + 9]? = some (2, 0) := by rw [e13]; exact K_9_12
  have G_0_2_13 : σ13.2.2.1 o 2 = some (o + 1) := by rw [e13]; exact g_prO (by omega) G_0_2_12
  have G_0_3_13 : σ13.2.2.1 o 3 = some (o + 2) := by rw [e13]; exact g_prO (by omega) G_0_3_12
  have G_0_4_13 : σ13.2.2.1 o 4 = some (o + 3) := by rw [e13]; exact g_prO (by omega) G_0_4_12
  have G_0_5_13 : σ13.2.2.1 o 5 = some (o + 4) := by rw [e13]; exact g_prO (by omega) G_0_5_12
  have S_0_13 : isDia (mBo σ13) g := by rw [e13]; exact isDia_ext S_0_12 (fun q x h => h) (fun q h1 h2 => mup_ne (by omega))
  have S_1_13 : isTim (mBo σ13) (o + 4) := by rw [e13]; exact isTim_ext S_1_12 (fun q x h => h) (fun q h1 h2 => mup_ne (by omega))
  have R_0_13 : σ13.2.2.2.1 o = fun _ => 0 := by rw [e13]; exact R_0_12
  have R_1_13 : σ13.2.2.2.1 (o + 1) = fun _ => 0 := by rw [e13]; exact R_1_12
  have R_2_13 : σ13.2.2.2.1 (o + 2) = fun _ => 0 := by rw [e13]; exact R_2_12
  have R_3_13 : σ13.2.2.2.1 (o + 3) = fun _ => 0 := by rw [e13]; exact R_3_12
  have R_7_13 : σ13.2.2.2.1 (o + 7) = fun _ => 0 := by rw [e13]; exact R_7_12
  have R_8_13 : σ13.2.2.2.1 (o + 8) = fun _ => 0 := by rw [e13]; exact R_8_12
  have G_8_0_13 : σ13.2.2.1 (o + 8) 0 = some (o + 9) := by rw [e13]; exact g_prS
  clear K_0_12 K_1_12 K_2_12 K_3_12 K_4_12 K_8_12 K_9_12 G_0_2_12 G_0_3_12 G_0_4_12 G_0_5_12 S_0_12 S_1_12 R_0_12 R_1_12 R_2_12 R_3_12 R_7_12 R_8_12 N_12 T_12 O_12 X_12 e13 σ12
  show RC _ _ _ [some (.ref o), some (.int x1), some (.ref g)] [.ref (o + 8), .ref o] σ13 _
  refine c_dup rfl ?_
  refine c_int ?_
  refine c_new (k := 2) (mOut_lt (ltL [o, g] rfl (List.forall_mem_cons.mpr ⟨by omega, (List.forall_mem_cons.mpr ⟨by omega, (fun _ h => absurd h List.not_mem_nil)⟩)⟩)) (ltS [o + 8, o + 8, o] rfl (List.forall_mem_cons.mpr ⟨by omega, (List.forall_mem_cons.mpr ⟨by omega, (List.forall_mem_cons.mpr ⟨by omega, (fun _ h => absurd h List.not_mem_nil)⟩)⟩)⟩))) O_13 ?_
  obtain ⟨σ14, e14⟩ : ∃ x, x = mNew σ13 2 0 (mFt.getD 2 []).length := ⟨_, rfl⟩
  rw [← e14, show σ13.2.1.length = o + 10 by omega]
  have N_14 : σ14.2.1.length = o + 11 := by rw [e14, len_new]; omega
  have T_14 : σ14.1 = σ.1 + 198 := by rw [e14]; show σ13.1 + 10 = _; omega
  have O_14 : rOK σ14 := by rw [e14]; exact rOK_new O_13
  have X_14 : Ex σ σ14 o := by rw [e14]; exact X_13.new (by omega)
  have K_0_14 : σ14.2.1[o]? = some (3, 0) := by rw [e14]; exact k_new K_0_13
  have K_1_14 : σ14.2.1[o + 1]? = some (20, 20) := by rw [e14]; exact k_new K_1_13
  have K_2_14 : σ14.2.1[o + 2]? = some (20, 20) := by rw [e14]; exact k_new K_2_13
  have K_3_14 : σ14.2.1[o + 3]? = some (20, 96) := by rw [e14]; exact k_new K_3_13
  have K_4_14 : σ14.2.1[o + 4]? = some (6, 0) := by rw [e14]; exact k_new K_4_13
  have K_8_14 : σ14.2.1[o + 8]? = some (24, 2) := by rw [e14]; exact k_new K_8_13
  have K_9_14 : σ14.2.1[o + 9]? = some (2, 0) := by rw [e14]; exact k_new K_9_13
  have G_0_2_14 : σ14.2.2.1 o 2 = some (o + 1) := by rw [e14]; exact g_new (by omega) G_0_2_13
  have G_0_3_14 : σ14.2.2.1 o 3 = some (o + 2) := by rw [e14]; exact g_new (by omega) G_0_3_13
  have G_0_4_14 : σ14.2.2.1 o 4 = some (o + 3) := by rw [e14]; exact g_new (by omega) G_0_4_13
  have G_0_5_14 : σ14.2.2.1 o 5 = some (o + 4) := by rw [e14]; exact g_new (by omega) G_0_5_13
  have G_8_0_14 : σ14.2.2.1 (o + 8) 0 = some (o + 9) := by rw [e14]; exact g_new (by omega) G_8_0_13
  have S_0_14 : isDia (mBo σ14) g := by rw [e14]; exact isDia_ext S_0_13 (fun q x h => k_new h) (fun q h1 h2 => mup_ne (by omega))
  have S_1_14 : isTim (mBo σ14) (o + 4) := by rw [e14]; exact isTim_ext S_1_13 (fun q x h => k_new h) (fun q h1 h2 => mup_ne (by omega))
  have R_0_14 : σ14.2.2.2.1 o = fun _ => 0 := by rw [e14]; exact (mup_ne (by omega)).trans R_0_13
  have R_1_14 : σ14.2.2.2.1 (o + 1) = fun _ => 0 := by rw [e14]; exact (mup_ne (by omega)).trans R_1_13
  have R_2_14 : σ14.2.2.2.1 (o + 2) = fun _ => 0 := by rw [e14]; exact (mup_ne (by omega)).trans R_2_13
  have R_3_14 : σ14.2.2.2.1 (o + 3) = fun _ => 0 := by rw [e14]; exact (mup_ne (by omega)).trans R_3_13
  have R_7_14 : σ14.2.2.2.1 (o + 7) = fun _ => 0 := by rw [e14]; exact (mup_ne (by omega)).trans R_7_13
  have R_8_14 : σ14.2.2.2.1 (o + 8) = fun _ => 0 := by rw [e14]; exact (mup_ne (by omega)).trans R_8_13
  have K_10_14 : σ14.2.1[o + 10]? = some (2, 0) := by rw [e14, ← show σ13.2.1.length = o + 10 by omega]; exact k_newS
  have R_10_14 : σ14.2.2.2.1 (o + 10) = fun _ => 0 := by rw [e14, ← show σ13.2.1.length = o + 10 by omega]; exact mup_eq
  clear K_0_13 K_1_13 K_2_13 K_3_13 K_4_13 K_8_13 K_9_13 G_0_2_13 G_0_3_13 G_0_4_13 G_0_5_13 G_8_0_13 S_0_13 S_1_13 R_0_13 R_1_13 R_2_13 R_3_13 R_7_13 R_8_13 N_13 T_13 O_13 X_13 e14 σ13
  show RC _ _ _ [some (.ref o), some (.int x1), some (.ref g)] [.ref (o + 10), .int 1, .ref (o + 8), .ref (o + 8), .ref o] σ14 _
  refine c_dup rfl ?_
  refine c_call (o := o + 10) (as := []) (st := [.ref (o + 10), .int 1, .ref (o + 8), .ref (o + 8), .ref o]) (rfl) rfl (Nat.le_of_ble_eq_true rfl) (Or.inr rfl) (ltL [o, g] rfl (List.forall_mem_cons.mpr ⟨by omega, (List.forall_mem_cons.mpr ⟨by omega, (fun _ h => absurd h List.not_mem_nil)⟩)⟩)) (ltS [o + 10, o + 8, o + 8, o] rfl (List.forall_mem_cons.mpr ⟨by omega, (List.forall_mem_cons.mpr ⟨by omega, (List.forall_mem_cons.mpr ⟨by omega, (List.forall_mem_cons.mpr ⟨by omega, (fun _ h => absurd h List.not_mem_nil)⟩)⟩)⟩)⟩)) (nY2_init (by omega) O_14 R_10_14 K_10_14 (by omega)) (fun σ15 Z_15 => ?_)
  obtain ⟨E_15, NN_15, TT_15, O_15⟩ := Z_15
  have N_15 : σ15.2.1.length = o + 11 := by omega
  have T_15 : σ15.1 = σ.1 + 198 := by omega
  have X_15 : Ex σ σ15 o := X_14.call E_15 (by omega)
  have K_0_15 : σ15.2.1[o]? = some (3, 0) := E_15.1 _ _ K_0_14
  have K_1_15 : σ15.2.1[o + 1]? = some (20, 20) := E_15.1 _ _ K_1_14
  have K_2_15 : σ15.2.1[o + 2]? = some (20, 20) := E_15.1 _ _ K_2_14
  have K_3_15 : σ15.2.1[o + 3]? = some (20, 96) := E_15.1 _ _ K_3_14
  have K_4_15 : σ15.2.1[o + 4]? = some (6, 0) := E_15.1 _ _ K_4_14
  have K_8_15 : σ15.2.1[o + 8]? = some (24, 2) := E_15.1 _ _ K_8_14
  have K_9_15 : σ15.2.1[o + 9]? = some (2, 0) := E_15.1 _ _ K_9_14
  have K_10_15 : σ15.2.1[o + 10]? = some (2, 0) := E_15.1 _ _ K_10_14
  have G_0_2_15 : σ15.2.2.1 o 2 = some (o + 1) := by rw [(E_15.2 _ (by omega) (by omega)).1]; exact G_0_2_14
  have G_0_3_15 : σ15.2.2.1 o 3 = some (o + 2) := by rw [(E_15.2 _ (by omega) (by omega)).1]; exact G_0_3_14
  have G_0_4_15 : σ15.2.2.1 o 4 = some (o + 3) := by rw [(E_15.2 _ (by omega) (by omega)).1]; exact G_0_4_14
  have G_0_5_15 : σ15.2.2.1 o 5 = some (o + 4) := by rw [(E_15.2 _ (by omega) (by omega)).1]; exact G_0_5_14
  have G_8_0_15 : σ15.2.2.1 (o + 8) 0 = some (o + 9) := by rw [(E_15.2 _ (by omega) (by omega)).1]; exact G_8_0_14
  have S_0_15 : isDia (mBo σ15) g := isDia_ext S_0_14 E_15.1 (fun q h1 h2 => (E_15.2 q (by omega) (by omega)).1)
  have S_1_15 : isTim (mBo σ15) (o + 4) := isTim_ext S_1_14 E_15.1 (fun q h1 h2 => (E_15.2 q (by omega) (by omega)).1)
  have R_0_15 : σ15.2.2.2.1 o = fun _ => 0 := by rw [(E_15.2 _ (by omega) (by omega)).2.1]; exact R_0_14
  have R_1_15 : σ15.2.2.2.1 (o + 1) = fun _ => 0 := by rw [(E_15.2 _ (by omega) (by omega)).2.1]; exact R_1_14
  have R_2_15 : σ15.2.2.2.1 (o + 2) = fun _ => 0 := by rw [(E_15.2 _ (by omega) (by omega)).2.1]; exact R_2_14
  have R_3_15 : σ15.2.2.2.1 (o + 3) = fun _ => 0 := by rw [(E_15.2 _ (by omega) (by omega)).2.1]; exact R_3_14
  have R_7_15 : σ15.2.2.2.1 (o + 7) = fun _ => 0 := by rw [(E_15.2 _ (by omega) (by omega)).2.1]; exact R_7_14
  have R_8_15 : σ15.2.2.2.1 (o + 8) = fun _ => 0 := by rw [(E_15.2 _ (by omega) (by omega)).2.1]; exact R_8_14
  clear K_0_14 K_1_14 K_2_14 K_3_14 K_4_14 K_8_14 K_9_14 K_10_14 G_0_2_14 G_0_3_14 G_0_4_14 G_0_5_14 G_8_0_14 S_0_14 S_1_14 R_0_14 R_1_14 R_2_14 R_3_14 R_7_14 R_8_14 R_10_14 N_14 T_14 O_14 X_14 E_15 NN_15 TT_15 σ14
  show RC _ _ _ [some (.ref o), some (.int x1), some (.ref g)] [.ref (o + 10), .int 1, .ref (o + 8), .ref (o + 8), .ref o] σ15 _
  refine c_ast K_8_15 (Or.inl rfl) K_10_15 (lt_in 1 2 rfl rfl) ?_
  rw [show ((1 : Int32)).toNatClampNeg = 1 by decide]
  obtain ⟨σ16, e16⟩ : ∃ x, x = mPr σ15 (o + 8) 1 (some (o + 10)) := ⟨_, rfl⟩
  rw [← e16]
  have N_16 : σ16.2.1.length = o + 11 := by rw [e16]; exact N_15
  have T_16 : σ16.1 = σ.1 + 198 := by rw [e16]; exact T_15
  have O_16 : rOK σ16 := by rw [e16]; exact rOK_pr O_15 (by omega)
  have X_16 : Ex σ σ16 o := by rw [e16]; exact X_15.pr (by omega)
  have K_0_16 : σ16.2.1[o]? = some (3, 0) := by rw [e16]; exact K_0_15
  have K_1_16 : σ16.2.1[o + 1]? = some (20, 20) := by rw [e16]; exact K_1_15
  have K_2_16 : σ16.2.1[o + 2]? = some (20, 20) := by rw [e16]; exact K_2_15
  have K_3_16 : σ16.2.1[o + 3]? = some (20, 96) := by rw [e16]; exact K_3_15
  have K_4_16 : σ16.2.1[o + 4]? = some (6, 0) := by rw [e16]; exact K_4_15
  have K_8_16 : σ16.2.1[o + 8]? = some (24, 2) := by rw [e16]; exact K_8_15
  have K_9_16 : σ16.2.1[o + 9]? = some (2, 0) := by rw [e16]; exact K_9_15
  have K_10_16 : σ16.2.1[o + 10]? = some (2, 0) := by rw [e16]; exact K_10_15
  have G_0_2_16 : σ16.2.2.1 o 2 = some (o + 1) := by rw [e16]; exact g_prO (by omega) G_0_2_15
  have G_0_3_16 : σ16.2.2.1 o 3 = some (o + 2) := by rw [e16]; exact g_prO (by omega) G_0_3_15
  have G_0_4_16 : σ16.2.2.1 o 4 = some (o + 3) := by rw [e16]; exact g_prO (by omega) G_0_4_15
  have G_0_5_16 : σ16.2.2.1 o 5 = some (o + 4) := by rw [e16]; exact g_prO (by omega) G_0_5_15
  have G_8_0_16 : σ16.2.2.1 (o + 8) 0 = some (o + 9) := by rw [e16]; exact g_prK (by decide) G_8_0_15
  have S_0_16 : isDia (mBo σ16) g := by rw [e16]; exact isDia_ext S_0_15 (fun q x h => h) (fun q h1 h2 => mup_ne (by omega))
  have S_1_16 : isTim (mBo σ16) (o + 4) := by rw [e16]; exact isTim_ext S_1_15 (fun q x h => h) (fun q h1 h2 => mup_ne (by omega))
  have R_0_16 : σ16.2.2.2.1 o = fun _ => 0 := by rw [e16]; exact R_0_15
  have R_1_16 : σ16.2.2.2.1 (o + 1) = fun _ => 0 := by rw [e16]; exact R_1_15
  have R_2_16 : σ16.2.2.2.1 (o + 2) = fun _ => 0 := by rw [e16]; exact R_2_15
  have R_3_16 : σ16.2.2.2.1 (o + 3) = fun _ => 0 := by rw [e16]; exact R_3_15
  have R_7_16 : σ16.2.2.2.1 (o + 7) = fun _ => 0 := by rw [e16]; exact R_7_15
  have R_8_16 : σ16.2.2.2.1 (o + 8) = fun _ => 0 := by rw [e16]; exact R_8_15
  have G_8_1_16 : σ16.2.2.1 (o + 8) 1 = some (o + 10) := by rw [e16]; exact g_prS
  clear K_0_15 K_1_15 K_2_15 K_3_15 K_4_15 K_8_15 K_9_15 K_10_15 G_0_2_15 G_0_3_15 G_0_4_15 G_0_5_15 G_8_0_15 S_0_15 S_1_15 R_0_15 R_1_15 R_2_15 R_3_15 R_7_15 R_8_15 N_15 T_15 O_15 X_15 e16 σ15
  show RC _ _ _ [some (.ref o), some (.int x1), some (.ref g)] [.ref (o + 8), .ref o] σ16 _
  refine c_putr K_0_16 ?_
  obtain ⟨σ17, e17⟩ : ∃ x, x = mPr σ16 o 6 (some (o + 8)) := ⟨_, rfl⟩
  rw [← e17]
  have N_17 : σ17.2.1.length = o + 11 := by rw [e17]; exact N_16
  have T_17 : σ17.1 = σ.1 + 198 := by rw [e17]; exact T_16
  have O_17 : rOK σ17 := by rw [e17]; exact rOK_pr O_16 (by omega)
  have X_17 : Ex σ σ17 o := by rw [e17]; exact X_16.pr (by omega)
  have K_0_17 : σ17.2.1[o]? = some (3, 0) := by rw [e17]; exact K_0_16
  have K_1_17 : σ17.2.1[o + 1]? = some (20, 20) := by rw [e17]; exact K_1_16
  have K_2_17 : σ17.2.1[o + 2]? = some (20, 20) := by rw [e17]; exact K_2_16
  have K_3_17 : σ17.2.1[o + 3]? = some (20, 96) := by rw [e17]; exact K_3_16
  have K_4_17 : σ17.2.1[o + 4]? = some (6, 0) := by rw [e17]; exact K_4_16
  have K_8_17 : σ17.2.1[o + 8]? = some (24, 2) := by rw [e17]; exact K_8_16
  have K_9_17 : σ17.2.1[o + 9]? = some (2, 0) := by rw [e17]; exact K_9_16
  have K_10_17 : σ17.2.1[o + 10]? = some (2, 0) := by rw [e17]; exact K_10_16
  have G_0_2_17 : σ17.2.2.1 o 2 = some (o + 1) := by rw [e17]; exact g_prK (by decide) G_0_2_16
  have G_0_3_17 : σ17.2.2.1 o 3 = some (o + 2) := by rw [e17]; exact g_prK (by decide) G_0_3_16
  have G_0_4_17 : σ17.2.2.1 o 4 = some (o + 3) := by rw [e17]; exact g_prK (by decide) G_0_4_16
  have G_0_5_17 : σ17.2.2.1 o 5 = some (o + 4) := by rw [e17]; exact g_prK (by decide) G_0_5_16
  have G_8_0_17 : σ17.2.2.1 (o + 8) 0 = some (o + 9) := by rw [e17]; exact g_prO (by omega) G_8_0_16
  have G_8_1_17 : σ17.2.2.1 (o + 8) 1 = some (o + 10) := by rw [e17]; exact g_prO (by omega) G_8_1_16
  have S_0_17 : isDia (mBo σ17) g := by rw [e17]; exact isDia_ext S_0_16 (fun q x h => h) (fun q h1 h2 => mup_ne (by omega))
  have S_1_17 : isTim (mBo σ17) (o + 4) := by rw [e17]; exact isTim_ext S_1_16 (fun q x h => h) (fun q h1 h2 => mup_ne (by omega))
  have R_0_17 : σ17.2.2.2.1 o = fun _ => 0 := by rw [e17]; exact R_0_16
  have R_1_17 : σ17.2.2.2.1 (o + 1) = fun _ => 0 := by rw [e17]; exact R_1_16
  have R_2_17 : σ17.2.2.2.1 (o + 2) = fun _ => 0 := by rw [e17]; exact R_2_16
  have R_3_17 : σ17.2.2.2.1 (o + 3) = fun _ => 0 := by rw [e17]; exact R_3_16
  have R_7_17 : σ17.2.2.2.1 (o + 7) = fun _ => 0 := by rw [e17]; exact R_7_16
  have R_8_17 : σ17.2.2.2.1 (o + 8) = fun _ => 0 := by rw [e17]; exact R_8_16
  have G_0_6_17 : σ17.2.2.1 o 6 = some (o + 8) := by rw [e17]; exact g_prS
  clear K_0_16 K_1_16 K_2_16 K_3_16 K_4_16 K_8_16 K_9_16 K_10_16 G_0_2_16 G_0_3_16 G_0_4_16 G_0_5_16 G_8_0_16 G_8_1_16 S_0_16 S_1_16 R_0_16 R_1_16 R_2_16 R_3_16 R_7_16 R_8_16 N_16 T_16 O_16 X_16 e17 σ16
  show RC _ _ _ [some (.ref o), some (.int x1), some (.ref g)] [] σ17 _
  refine c_aload rfl ?_
  refine c_iload rfl ?_
  refine c_put K_0_17 ?_
  obtain ⟨σ18, e18⟩ : ∃ x, x = mPv σ17 o 0 x1 := ⟨_, rfl⟩
  rw [← e18]
  have N_18 : σ18.2.1.length = o + 11 := by rw [e18]; exact N_17
  have T_18 : σ18.1 = σ.1 + 198 := by rw [e18]; exact T_17
  have O_18 : rOK σ18 := by rw [e18]; exact O_17
  have X_18 : Ex σ σ18 o := by rw [e18]; exact X_17.pv (by omega)
  have K_0_18 : σ18.2.1[o]? = some (3, 0) := by rw [e18]; exact K_0_17
  have K_1_18 : σ18.2.1[o + 1]? = some (20, 20) := by rw [e18]; exact K_1_17
  have K_2_18 : σ18.2.1[o + 2]? = some (20, 20) := by rw [e18]; exact K_2_17
  have K_3_18 : σ18.2.1[o + 3]? = some (20, 96) := by rw [e18]; exact K_3_17
  have K_4_18 : σ18.2.1[o + 4]? = some (6, 0) := by rw [e18]; exact K_4_17
  have K_8_18 : σ18.2.1[o + 8]? = some (24, 2) := by rw [e18]; exact K_8_17
  have K_9_18 : σ18.2.1[o + 9]? = some (2, 0) := by rw [e18]; exact K_9_17
  have K_10_18 : σ18.2.1[o + 10]? = some (2, 0) := by rw [e18]; exact K_10_17
  have G_0_2_18 : σ18.2.2.1 o 2 = some (o + 1) := by rw [e18]; exact G_0_2_17
  have G_0_3_18 : σ18.2.2.1 o 3 = some (o + 2) := by rw [e18]; exact G_0_3_17
  have G_0_4_18 : σ18.2.2.1 o 4 = some (o + 3) := by rw [e18]; exact G_0_4_17
  have G_0_5_18 : σ18.2.2.1 o 5 = some (o + 4) := by rw [e18]; exact G_0_5_17
  have G_8_0_18 : σ18.2.2.1 (o + 8) 0 = some (o + 9) := by rw [e18]; exact G_8_0_17
  have G_8_1_18 : σ18.2.2.1 (o + 8) 1 = some (o + 10) := by rw [e18]; exact G_8_1_17
  have G_0_6_18 : σ18.2.2.1 o 6 = some (o + 8) := by rw [e18]; exact G_0_6_17
  have S_0_18 : isDia (mBo σ18) g := by rw [e18]; exact S_0_17
  have S_1_18 : isTim (mBo σ18) (o + 4) := by rw [e18]; exact S_1_17
  have R_1_18 : σ18.2.2.2.1 (o + 1) = fun _ => 0 := by rw [e18]; exact (mup_ne (by omega)).trans R_1_17
  have R_2_18 : σ18.2.2.2.1 (o + 2) = fun _ => 0 := by rw [e18]; exact (mup_ne (by omega)).trans R_2_17
  have R_3_18 : σ18.2.2.2.1 (o + 3) = fun _ => 0 := by rw [e18]; exact (mup_ne (by omega)).trans R_3_17
  have R_7_18 : σ18.2.2.2.1 (o + 7) = fun _ => 0 := by rw [e18]; exact (mup_ne (by omega)).trans R_7_17
  have R_8_18 : σ18.2.2.2.1 (o + 8) = fun _ => 0 := by rw [e18]; exact (mup_ne (by omega)).trans R_8_17
  have R_0_18 : σ18.2.2.2.1 o = upd (fun _ => 0) 0 x1 := by rw [e18]; show va_up _ _ _ _ = _; rw [mup_eq, R_0_17]
  clear K_0_17 K_1_17 K_2_17 K_3_17 K_4_17 K_8_17 K_9_17 K_10_17 G_0_2_17 G_0_3_17 G_0_4_17 G_0_5_17 G_8_0_17 G_8_1_17 G_0_6_17 S_0_17 S_1_17 R_0_17 R_1_17 R_2_17 R_3_17 R_7_17 R_8_17 N_17 T_17 O_17 X_17 e18 σ17
  show RC _ _ _ [some (.ref o), some (.int x1), some (.ref g)] [] σ18 _
  refine c_aload rfl ?_
  refine c_aload rfl ?_
  refine c_putr K_0_18 ?_
  obtain ⟨σ19, e19⟩ : ∃ x, x = mPr σ18 o 1 (some g) := ⟨_, rfl⟩
  rw [← e19]
  have N_19 : σ19.2.1.length = o + 11 := by rw [e19]; exact N_18
  have T_19 : σ19.1 = σ.1 + 198 := by rw [e19]; exact T_18
  have O_19 : rOK σ19 := by rw [e19]; exact rOK_pr O_18 (by omega)
  have X_19 : Ex σ σ19 o := by rw [e19]; exact X_18.pr (by omega)
  have K_0_19 : σ19.2.1[o]? = some (3, 0) := by rw [e19]; exact K_0_18
  have K_1_19 : σ19.2.1[o + 1]? = some (20, 20) := by rw [e19]; exact K_1_18
  have K_2_19 : σ19.2.1[o + 2]? = some (20, 20) := by rw [e19]; exact K_2_18
  have K_3_19 : σ19.2.1[o + 3]? = some (20, 96) := by rw [e19]; exact K_3_18
  have K_4_19 : σ19.2.1[o + 4]? = some (6, 0) := by rw [e19]; exact K_4_18
  have K_8_19 : σ19.2.1[o + 8]? = some (24, 2) := by rw [e19]; exact K_8_18
  have K_9_19 : σ19.2.1[o + 9]? = some (2, 0) := by rw [e19]; exact K_9_18
  have K_10_19 : σ19.2.1[o + 10]? = some (2, 0) := by rw [e19]; exact K_10_18
  have G_0_2_19 : σ19.2.2.1 o 2 = some (o + 1) := by rw [e19]; exact g_prK (by decide) G_0_2_18
  have G_0_3_19 : σ19.2.2.1 o 3 = some (o + 2) := by rw [e19]; exact g_prK (by decide) G_0_3_18
  have G_0_4_19 : σ19.2.2.1 o 4 = some (o + 3) := by rw [e19]; exact g_prK (by decide) G_0_4_18
  have G_0_5_19 : σ19.2.2.1 o 5 = some (o + 4) := by rw [e19]; exact g_prK (by decide) G_0_5_18
  have G_8_0_19 : σ19.2.2.1 (o + 8) 0 = some (o + 9) := by rw [e19]; exact g_prO (by omega) G_8_0_18
  have G_8_1_19 : σ19.2.2.1 (o + 8) 1 = some (o + 10) := by rw [e19]; exact g_prO (by omega) G_8_1_18
  have G_0_6_19 : σ19.2.2.1 o 6 = some (o + 8) := by rw [e19]; exact g_prK (by decide) G_0_6_18
  have S_0_19 : isDia (mBo σ19) g := by rw [e19]; exact isDia_ext S_0_18 (fun q x h => h) (fun q h1 h2 => mup_ne (by omega))
  have S_1_19 : isTim (mBo σ19) (o + 4) := by rw [e19]; exact isTim_ext S_1_18 (fun q x h => h) (fun q h1 h2 => mup_ne (by omega))
  have R_0_19 : σ19.2.2.2.1 o = upd (fun _ => 0) 0 x1 := by rw [e19]; exact R_0_18
  have R_1_19 : σ19.2.2.2.1 (o + 1) = fun _ => 0 := by rw [e19]; exact R_1_18
  have R_2_19 : σ19.2.2.2.1 (o + 2) = fun _ => 0 := by rw [e19]; exact R_2_18
  have R_3_19 : σ19.2.2.2.1 (o + 3) = fun _ => 0 := by rw [e19]; exact R_3_18
  have R_7_19 : σ19.2.2.2.1 (o + 7) = fun _ => 0 := by rw [e19]; exact R_7_18
  have R_8_19 : σ19.2.2.2.1 (o + 8) = fun _ => 0 := by rw [e19]; exact R_8_18
  have G_0_1_19 : σ19.2.2.1 o 1 = some g := by rw [e19]; exact g_prS
  clear K_0_18 K_1_18 K_2_18 K_3_18 K_4_18 K_8_18 K_9_18 K_10_18 G_0_2_18 G_0_3_18 G_0_4_18 G_0_5_18 G_8_0_18 G_8_1_18 G_0_6_18 S_0_18 S_1_18 R_0_18 R_1_18 R_2_18 R_3_18 R_7_18 R_8_18 N_18 T_18 O_18 X_18 e19 σ18
  show RC _ _ _ [some (.ref o), some (.int x1), some (.ref g)] [] σ19 _
  refine c_retv (by omega) ?_
  exact ⟨X_19, by omega, T_19, O_19, ⟨K_0_19, K_1_19, K_2_19, K_3_19, K_8_19, S_1_19, K_9_19, K_10_19, S_0_19, G_0_1_19, G_0_2_19, G_0_3_19, G_0_4_19, G_0_5_19, G_0_6_19, G_8_0_19, G_8_1_19⟩, R_0_19, R_7_19⟩
set_option maxRecDepth 20000 in
set_option maxHeartbeats 4000000 in
theorem nY8_init {d : Nat} {σ : mMH} {o : Nat} (hL : σ.2.1.length = o + 1) (hO : rOK σ) (hR : σ.2.2.2.1 o = fun _ => 0) (hK : σ.2.1[o]? = some (8, 0)) (hz : o + 26 ≤ 1000000) : CC (d + 3) 115 [.ref o] σ (fun τ => Ex σ τ o ∧ τ.2.1.length = o + 1 + 25 ∧ τ.1 = σ.1 + 597 ∧ rOK τ ∧ isWorld (mBo τ) o ∧ τ.2.2.2.1 (o + 4) = upd (fun _ => 0) 0 0 ∧ τ.2.2.2.1 (o + 15) = upd (fun _ => 0) 0 1 ∧ τ.2.2.2.1 (o + 11) = (fun _ => 0) ∧ τ.2.2.2.1 (o + 22) = (fun _ => 0)) := by
  have K_0_0 := hK
  have R_0_0 := hR
  have O_0 := hO
  have N_0 := hL
  have T_0 : σ.1 = σ.1 + 0 := rfl
  have X_0 : Ex σ σ o := Ex.rf
  refine c_begin mt_115 (by intro a ha; simp only [List.mem_cons, List.not_mem_nil, or_false] at ha; rcases ha with rfl <;> rfl) (Nat.le_of_ble_eq_true rfl) ?_
  show RC _ _ _ [some (.ref o)] [] σ _
  refine c_aload rfl ?_
  refine c_obj (Nat.le_of_ble_eq_true rfl) ?_
  refine c_aload rfl ?_
  refine c_new (k := 0) (mOut_lt (ltL [o] rfl (List.forall_mem_cons.mpr ⟨by omega, (fun _ h => absurd h List.not_mem_nil)⟩)) (ltS [o] rfl (List.forall_mem_cons.mpr ⟨by omega, (fun _ h => absurd h List.not_mem_nil)⟩))) O_0 ?_
  obtain ⟨σ1, e1⟩ : ∃ x, x = mNew σ 0 0 (mFt.getD 0 []).length := ⟨_, rfl⟩
  rw [← e1, show σ.2.1.length = o + 1 by omega]
  have N_1 : σ1.2.1.length = o + 2 := by rw [e1, len_new]; omega
  have T_1 : σ1.1 = σ.1 + 3 := by rw [e1]; show σ.1 + 3 = _; omega
  have O_1 : rOK σ1 := by rw [e1]; exact rOK_new O_0
  have X_1 : Ex σ σ1 o := by rw [e1]; exact X_0.new (by omega)
  have K_0_1 : σ1.2.1[o]? = some (8, 0) := by rw [e1]; exact k_new K_0_0
  have R_0_1 : σ1.2.2.2.1 o = fun _ => 0 := by rw [e1]; exact (mup_ne (by omega)).trans R_0_0
  have K_1_1 : σ1.2.1[o + 1]? = some (0, 0) := by rw [e1, ← show σ.2.1.length = o + 1 by omega]; exact k_newS
  have R_1_1 : σ1.2.2.2.1 (o + 1) = fun _ => 0 := by rw [e1, ← show σ.2.1.length = o + 1 by omega]; exact mup_eq
  clear K_0_0 R_0_0 N_0 T_0 O_0 X_0 e1
  show RC _ _ _ [some (.ref o)] [.ref (o + 1), .ref o] σ1 _
  refine c_dup rfl ?_
  refine c_call (o := o + 1) (as := []) (st := [.ref (o + 1), .ref o]) (rfl) rfl (Nat.le_of_ble_eq_true rfl) (Or.inr rfl) (ltL [o] rfl (List.forall_mem_cons.mpr ⟨by omega, (fun _ h => absurd h List.not_mem_nil)⟩)) (ltS [o + 1, o] rfl (List.forall_mem_cons.mpr ⟨by omega, (List.forall_mem_cons.mpr ⟨by omega, (fun _ h => absurd h List.not_mem_nil)⟩)⟩)) (nY0_init (by omega) O_1 R_1_1 K_1_1 (by omega)) (fun σ2 Z_2 => ?_)
  obtain ⟨E_2, NN_2, TT_2, O_2, Y0_2⟩ := Z_2
  have N_2 : σ2.2.1.length = o + 3 := by omega
  have T_2 : σ2.1 = σ.1 + 183 := by omega
  have X_2 : Ex σ σ2 o := X_1.call E_2 (by omega)
  have K_0_2 : σ2.2.1[o]? = some (8, 0) := E_2.1 _ _ K_0_1
  have K_1_2 : σ2.2.1[o + 1]? = some (0, 0) := E_2.1 _ _ K_1_1
  have R_0_2 : σ2.2.2.2.1 o = fun _ => 0 := by rw [(E_2.2 _ (by omega) (by omega)).2.1]; exact R_0_1
  have S_0_2 : isDia (mBo σ2) (o + 1) := Y0_2
  clear K_0_1 K_1_1 R_0_1 R_1_1 N_1 T_1 O_1 X_1 E_2 NN_2 TT_2 Y0_2 σ1
  show RC _ _ _ [some (.ref o)] [.ref (o + 1), .ref o] σ2 _
  refine c_putr K_0_2 ?_
  obtain ⟨σ3, e3⟩ : ∃ x, x = mPr σ2 o 0 (some (o + 1)) := ⟨_, rfl⟩
  rw [← e3]
  have N_3 : σ3.2.1.length = o + 3 := by rw [e3]; exact N_2
  have T_3 : σ3.1 = σ.1 + 183 := by rw [e3]; exact T_2
  have O_3 : rOK σ3 := by rw [e3]; exact rOK_pr O_2 (by omega)
  have X_3 : Ex σ σ3 o := by rw [e3]; exact X_2.pr (by omega)
  have K_0_3 : σ3.2.1[o]? = some (8, 0) := by rw [e3]; exact K_0_2
  have K_1_3 : σ3.2.1[o + 1]? = some (0, 0) := by rw [e3]; exact K_1_2
  have S_0_3 : isDia (mBo σ3) (o + 1) := by rw [e3]; exact isDia_ext S_0_2 (fun q x h => h) (fun q h1 h2 => mup_ne (by omega))
  have R_0_3 : σ3.2.2.2.1 o = fun _ => 0 := by rw [e3]; exact R_0_2
  have G_0_0_3 : σ3.2.2.1 o 0 = some (o + 1) := by rw [e3]; exact g_prS
  clear K_0_2 K_1_2 S_0_2 R_0_2 N_2 T_2 O_2 X_2 e3 σ2
  show RC _ _ _ [some (.ref o)] [] σ3 _
  refine c_aload rfl ?_
  refine c_int ?_
  refine c_newr (t := 5) (z := 2) (by decide) (by decide) (mOut_lt (ltL [o] rfl (List.forall_mem_cons.mpr ⟨by omega, (fun _ h => absurd h List.not_mem_nil)⟩)) (ltS [o] rfl (List.forall_mem_cons.mpr ⟨by omega, (fun _ h => absurd h List.not_mem_nil)⟩))) O_3 ?_
  rw [show ((2 : Int32)).toNatClampNeg = 2 by decide]
  obtain ⟨σ4, e4⟩ : ∃ x, x = mNew σ3 25 2 2 := ⟨_, rfl⟩
  rw [← e4, show σ3.2.1.length = o + 3 by omega]
  have N_4 : σ4.2.1.length = o + 4 := by rw [e4, len_new]; omega
  have T_4 : σ4.1 = σ.1 + 185 := by rw [e4]; show σ3.1 + 2 = _; omega
  have O_4 : rOK σ4 := by rw [e4]; exact rOK_new O_3
  have X_4 : Ex σ σ4 o := by rw [e4]; exact X_3.new (by omega)
  have K_0_4 : σ4.2.1[o]? = some (8, 0) := by rw [e4]; exact k_new K_0_3
  have K_1_4 : σ4.2.1[o + 1]? = some (0, 0) := by rw [e4]; exact k_new K_1_3
  have G_0_0_4 : σ4.2.2.1 o 0 = some (o + 1) := by rw [e4]; exact g_new (by omega) G_0_0_3
  have S_0_4 : isDia (mBo σ4) (o + 1) := by rw [e4]; exact isDia_ext S_0_3 (fun q x h => k_new h) (fun q h1 h2 => mup_ne (by omega))
  have R_0_4 : σ4.2.2.2.1 o = fun _ => 0 := by rw [e4]; exact (mup_ne (by omega)).trans R_0_3
  have K_3_4 : σ4.2.1[o + 3]? = some (25, 2) := by rw [e4, ← show σ3.2.1.length = o + 3 by omega]; exact k_newS
  have R_3_4 : σ4.2.2.2.1 (o + 3) = fun _ => 0 := by rw [e4, ← show σ3.2.1.length = o + 3 by omega]; exact mup_eq
  clear K_0_3 K_1_3 G_0_0_3 S_0_3 R_0_3 N_3 T_3 O_3 X_3 e4 σ3
  show RC _ _ _ [some (.ref o)] [.ref (o + 3), .ref o] σ4 _
  refine c_dup rfl ?_
  refine c_int ?_
  refine c_new (k := 3) (mOut_lt (ltL [o] rfl (List.forall_mem_cons.mpr ⟨by omega, (fun _ h => absurd h List.not_mem_nil)⟩)) (ltS [o + 3, o + 3, o] rfl (List.forall_mem_cons.mpr ⟨by omega, (List.forall_mem_cons.mpr ⟨by omega, (List.forall_mem_cons.mpr ⟨by omega, (fun _ h => absurd h List.not_mem_nil)⟩)⟩)⟩))) O_4 ?_
  obtain ⟨σ5, e5⟩ : ∃ x, x = mNew σ4 3 0 (mFt.getD 3 []).length := ⟨_, rfl⟩
  rw [← e5, show σ4.2.1.length = o + 4 by omega]
  have N_5 : σ5.2.1.length = o + 5 := by rw [e5, len_new]; omega
  have T_5 : σ5.1 = σ.1 + 193 := by rw [e5]; show σ4.1 + 8 = _; omega
  have O_5 : rOK σ5 := by rw [e5]; exact rOK_new O_4
  have X_5 : Ex σ σ5 o := by rw [e5]; exact X_4.new (by omega)
  have K_0_5 : σ5.2.1[o]? = some (8, 0) := by rw [e5]; exact k_new K_0_4
  have K_1_5 : σ5.2.1[o + 1]? = some (0, 0) := by rw [e5]; exact k_new K_1_4
  have K_3_5 : σ5.2.1[o + 3]? = some (25, 2) := by rw [e5]; exact k_new K_3_4
  have G_0_0_5 : σ5.2.2.1 o 0 = some (o + 1) := by rw [e5]; exact g_new (by omega) G_0_0_4
  have S_0_5 : isDia (mBo σ5) (o + 1) := by rw [e5]; exact isDia_ext S_0_4 (fun q x h => k_new h) (fun q h1 h2 => mup_ne (by omega))
  have R_0_5 : σ5.2.2.2.1 o = fun _ => 0 := by rw [e5]; exact (mup_ne (by omega)).trans R_0_4
  have R_3_5 : σ5.2.2.2.1 (o + 3) = fun _ => 0 := by rw [e5]; exact (mup_ne (by omega)).trans R_3_4
  have K_4_5 : σ5.2.1[o + 4]? = some (3, 0) := by rw [e5, ← show σ4.2.1.length = o + 4 by omega]; exact k_newS
  have R_4_5 : σ5.2.2.2.1 (o + 4) = fun _ => 0 := by rw [e5, ← show σ4.2.1.length = o + 4 by omega]; exact mup_eq
  clear K_0_4 K_1_4 K_3_4 G_0_0_4 S_0_4 R_0_4 R_3_4 N_4 T_4 O_4 X_4 e5 σ4
  show RC _ _ _ [some (.ref o)] [.ref (o + 4), .int 0, .ref (o + 3), .ref (o + 3), .ref o] σ5 _
  refine c_dup rfl ?_
  refine c_int ?_
  refine c_aload rfl ?_
  refine c_getr (q := o + 1) K_0_5 G_0_0_5 ?_
  refine c_call (o := o + 4) (as := [.int 0, .ref (o + 1)]) (st := [.ref (o + 4), .int 0, .ref (o + 3), .ref (o + 3), .ref o]) (rfl) rfl (Nat.le_of_ble_eq_true rfl) (Or.inl rfl) (ltL [o] rfl (List.forall_mem_cons.mpr ⟨by omega, (fun _ h => absurd h List.not_mem_nil)⟩)) (ltS [o + 4, o + 3, o + 3, o] rfl (List.forall_mem_cons.mpr ⟨by omega, (List.forall_mem_cons.mpr ⟨by omega, (List.forall_mem_cons.mpr ⟨by omega, (List.forall_mem_cons.mpr ⟨by omega, (fun _ h => absurd h List.not_mem_nil)⟩)⟩)⟩)⟩)) (nY3_init (by omega) O_5 R_4_5 K_4_5 (by omega) 0 S_0_5 (by omega)) (fun σ6 Z_6 => ?_)
  obtain ⟨E_6, NN_6, TT_6, O_6, Y0_6, Y1_6, Y2_6⟩ := Z_6
  have N_6 : σ6.2.1.length = o + 15 := by omega
  have T_6 : σ6.1 = σ.1 + 391 := by omega
  have X_6 : Ex σ σ6 o := X_5.call E_6 (by omega)
  have K_0_6 : σ6.2.1[o]? = some (8, 0) := E_6.1 _ _ K_0_5
  have K_1_6 : σ6.2.1[o + 1]? = some (0, 0) := E_6.1 _ _ K_1_5
  have K_3_6 : σ6.2.1[o + 3]? = some (25, 2) := E_6.1 _ _ K_3_5
  have K_4_6 : σ6.2.1[o + 4]? = some (3, 0) := E_6.1 _ _ K_4_5
  have G_0_0_6 : σ6.2.2.1 o 0 = some (o + 1) := by rw [(E_6.2 _ (by omega) (by omega)).1]; exact G_0_0_5
  have S_0_6 : isDia (mBo σ6) (o + 1) := isDia_ext S_0_5 E_6.1 (fun q h1 h2 => (E_6.2 q (by omega) (by omega)).1)
  have R_0_6 : σ6.2.2.2.1 o = fun _ => 0 := by rw [(E_6.2 _ (by omega) (by omega)).2.1]; exact R_0_5
  have R_3_6 : σ6.2.2.2.1 (o + 3) = fun _ => 0 := by rw [(E_6.2 _ (by omega) (by omega)).2.1]; exact R_3_5
  have S_1_6 : isMach (mBo σ6) (o + 4) (o + 1) := Y0_6
  have R_4_6 : σ6.2.2.2.1 (o + 4) = upd (fun _ => 0) 0 0 := Y1_6
  have R_11_6 : σ6.2.2.2.1 (o + 11) = fun _ => 0 := Y2_6
  clear K_0_5 K_1_5 K_3_5 K_4_5 G_0_0_5 S_0_5 R_0_5 R_3_5 R_4_5 N_5 T_5 O_5 X_5 E_6 NN_6 TT_6 Y0_6 Y1_6 Y2_6 σ5
  show RC _ _ _ [some (.ref o)] [.ref (o + 4), .int 0, .ref (o + 3), .ref (o + 3), .ref o] σ6 _
  refine c_ast K_3_6 (Or.inr (Or.inl rfl)) K_4_6 (lt_in 0 2 rfl rfl) ?_
  rw [show ((0 : Int32)).toNatClampNeg = 0 by decide]
  obtain ⟨σ7, e7⟩ : ∃ x, x = mPr σ6 (o + 3) 0 (some (o + 4)) := ⟨_, rfl⟩
  rw [← e7]
  have N_7 : σ7.2.1.length = o + 15 := by rw [e7]; exact N_6
  have T_7 : σ7.1 = σ.1 + 391 := by rw [e7]; exact T_6
  have O_7 : rOK σ7 := by rw [e7]; exact rOK_pr O_6 (by omega)
  have X_7 : Ex σ σ7 o := by rw [e7]; exact X_6.pr (by omega)
  have K_0_7 : σ7.2.1[o]? = some (8, 0) := by rw [e7]; exact K_0_6
  have K_1_7 : σ7.2.1[o + 1]? = some (0, 0) := by rw [e7]; exact K_1_6
  have K_3_7 : σ7.2.1[o + 3]? = some (25, 2) := by rw [e7]; exact K_3_6
  have K_4_7 : σ7.2.1[o + 4]? = some (3, 0) := by rw [e7]; exact K_4_6
  have G_0_0_7 : σ7.2.2.1 o 0 = some (o + 1) := by rw [e7]; exact g_prO (by omega) G_0_0_6
  have S_0_7 : isDia (mBo σ7) (o + 1) := by rw [e7]; exact isDia_ext S_0_6 (fun q x h => h) (fun q h1 h2 => mup_ne (by omega))
  have S_1_7 : isMach (mBo σ7) (o + 4) (o + 1) := by rw [e7]; exact isMach_ext S_1_6 (fun q x h => h) (fun q h1 h2 => mup_ne (by omega)) (fun q h1 h2 => mup_ne (by omega))
  have R_0_7 : σ7.2.2.2.1 o = fun _ => 0 := by rw [e7]; exact R_0_6
  have R_3_7 : σ7.2.2.2.1 (o + 3) = fun _ => 0 := by rw [e7]; exact R_3_6
  have R_4_7 : σ7.2.2.2.1 (o + 4) = upd (fun _ => 0) 0 0 := by rw [e7]; exact R_4_6
  have R_11_7 : σ7.2.2.2.1 (o + 11) = fun _ => 0 := by rw [e7]; exact R_11_6
  have G_3_0_7 : σ7.2.2.1 (o + 3) 0 = some (o + 4) := by rw [e7]; exact g_prS
  clear K_0_6 K_1_6 K_3_6 K_4_6 G_0_0_6 S_0_6 S_1_6 R_0_6 R_3_6 R_4_6 R_11_6 N_6 T_6 O_6 X_6 e7 σ6
  show RC _ _ _ [some (.ref o)] [.ref (o + 3), .ref o] σ7 _
  refine c_dup rfl ?_
  refine c_int ?_
  refine c_new (k := 3) (mOut_lt (ltL [o] rfl (List.forall_mem_cons.mpr ⟨by omega, (fun _ h => absurd h List.not_mem_nil)⟩)) (ltS [o + 3, o + 3, o] rfl (List.forall_mem_cons.mpr ⟨by omega, (List.forall_mem_cons.mpr ⟨by omega, (List.forall_mem_cons.mpr ⟨by omega, (fun _ h => absurd h List.not_mem_nil)⟩)⟩)⟩))) O_7 ?_
  obtain ⟨σ8, e8⟩ : ∃ x, x = mNew σ7 3 0 (mFt.getD 3 []).length := ⟨_, rfl⟩
  rw [← e8, show σ7.2.1.length = o + 15 by omega]
  have N_8 : σ8.2.1.length = o + 16 := by rw [e8, len_new]; omega
  have T_8 : σ8.1 = σ.1 + 399 := by rw [e8]; show σ7.1 + 8 = _; omega
  have O_8 : rOK σ8 := by rw [e8]; exact rOK_new O_7
  have X_8 : Ex σ σ8 o := by rw [e8]; exact X_7.new (by omega)
  have K_0_8 : σ8.2.1[o]? = some (8, 0) := by rw [e8]; exact k_new K_0_7
  have K_1_8 : σ8.2.1[o + 1]? = some (0, 0) := by rw [e8]; exact k_new K_1_7
  have K_3_8 : σ8.2.1[o + 3]? = some (25, 2) := by rw [e8]; exact k_new K_3_7
  have K_4_8 : σ8.2.1[o + 4]? = some (3, 0) := by rw [e8]; exact k_new K_4_7
  have G_0_0_8 : σ8.2.2.1 o 0 = some (o + 1) := by rw [e8]; exact g_new (by omega) G_0_0_7
  have G_3_0_8 : σ8.2.2.1 (o + 3) 0 = some (o + 4) := by rw [e8]; exact g_new (by omega) G_3_0_7
  have S_0_8 : isDia (mBo σ8) (o + 1) := by rw [e8]; exact isDia_ext S_0_7 (fun q x h => k_new h) (fun q h1 h2 => mup_ne (by omega))
  have S_1_8 : isMach (mBo σ8) (o + 4) (o + 1) := by rw [e8]; exact isMach_ext S_1_7 (fun q x h => k_new h) (fun q h1 h2 => mup_ne (by omega)) (fun q h1 h2 => mup_ne (by omega))
  have R_0_8 : σ8.2.2.2.1 o = fun _ => 0 := by rw [e8]; exact (mup_ne (by omega)).trans R_0_7
  have R_3_8 : σ8.2.2.2.1 (o + 3) = fun _ => 0 := by rw [e8]; exact (mup_ne (by omega)).trans R_3_7
  have R_4_8 : σ8.2.2.2.1 (o + 4) = upd (fun _ => 0) 0 0 := by rw [e8]; exact (mup_ne (by omega)).trans R_4_7
  have R_11_8 : σ8.2.2.2.1 (o + 11) = fun _ => 0 := by rw [e8]; exact (mup_ne (by omega)).trans R_11_7
  have K_15_8 : σ8.2.1[o + 15]? = some (3, 0) := by rw [e8, ← show σ7.2.1.length = o + 15 by omega]; exact k_newS
  have R_15_8 : σ8.2.2.2.1 (o + 15) = fun _ => 0 := by rw [e8, ← show σ7.2.1.length = o + 15 by omega]; exact mup_eq
  clear K_0_7 K_1_7 K_3_7 K_4_7 G_0_0_7 G_3_0_7 S_0_7 S_1_7 R_0_7 R_3_7 R_4_7 R_11_7 N_7 T_7 O_7 X_7 e8 σ7
  show RC _ _ _ [some (.ref o)] [.ref (o + 15), .int 1, .ref (o + 3), .ref (o + 3), .ref o] σ8 _
  refine c_dup rfl ?_
  refine c_int ?_
  refine c_aload rfl ?_
  refine c_getr (q := o + 1) K_0_8 G_0_0_8 ?_
  refine c_call (o := o + 15) (as := [.int 1, .ref (o + 1)]) (st := [.ref (o + 15), .int 1, .ref (o + 3), .ref (o + 3), .ref o]) (rfl) rfl (Nat.le_of_ble_eq_true rfl) (Or.inl rfl) (ltL [o] rfl (List.forall_mem_cons.mpr ⟨by omega, (fun _ h => absurd h List.not_mem_nil)⟩)) (ltS [o + 15, o + 3, o + 3, o] rfl (List.forall_mem_cons.mpr ⟨by omega, (List.forall_mem_cons.mpr ⟨by omega, (List.forall_mem_cons.mpr ⟨by omega, (List.forall_mem_cons.mpr ⟨by omega, (fun _ h => absurd h List.not_mem_nil)⟩)⟩)⟩)⟩)) (nY3_init (by omega) O_8 R_15_8 K_15_8 (by omega) 1 S_0_8 (by omega)) (fun σ9 Z_9 => ?_)
  obtain ⟨E_9, NN_9, TT_9, O_9, Y0_9, Y1_9, Y2_9⟩ := Z_9
  have N_9 : σ9.2.1.length = o + 26 := by omega
  have T_9 : σ9.1 = σ.1 + 597 := by omega
  have X_9 : Ex σ σ9 o := X_8.call E_9 (by omega)
  have K_0_9 : σ9.2.1[o]? = some (8, 0) := E_9.1 _ _ K_0_8
  have K_1_9 : σ9.2.1[o + 1]? = some (0, 0) := E_9.1 _ _ K_1_8
  have K_3_9 : σ9.2.1[o + 3]? = some (25, 2) := E_9.1 _ _ K_3_8
  have K_4_9 : σ9.2.1[o + 4]? = some (3, 0) := E_9.1 _ _ K_4_8
  have K_15_9 : σ9.2.1[o + 15]? = some (3, 0) := E_9.1 _ _ K_15_8
  have G_0_0_9 : σ9.2.2.1 o 0 = some (o + 1) := by rw [(E_9.2 _ (by omega) (by omega)).1]; exact G_0_0_8
  have G_3_0_9 : σ9.2.2.1 (o + 3) 0 = some (o + 4) := by rw [(E_9.2 _ (by omega) (by omega)).1]; exact G_3_0_8
  have S_0_9 : isDia (mBo σ9) (o + 1) := isDia_ext S_0_8 E_9.1 (fun q h1 h2 => (E_9.2 q (by omega) (by omega)).1)
  have S_1_9 : isMach (mBo σ9) (o + 4) (o + 1) := isMach_ext S_1_8 E_9.1 (fun q h1 h2 => (E_9.2 q (by omega) (by omega)).1) (fun q h1 h2 => (E_9.2 q (by omega) (by omega)).1)
  have R_0_9 : σ9.2.2.2.1 o = fun _ => 0 := by rw [(E_9.2 _ (by omega) (by omega)).2.1]; exact R_0_8
  have R_3_9 : σ9.2.2.2.1 (o + 3) = fun _ => 0 := by rw [(E_9.2 _ (by omega) (by omega)).2.1]; exact R_3_8
  have R_4_9 : σ9.2.2.2.1 (o + 4) = upd (fun _ => 0) 0 0 := by rw [(E_9.2 _ (by omega) (by omega)).2.1]; exact R_4_8
  have R_11_9 : σ9.2.2.2.1 (o + 11) = fun _ => 0 := by rw [(E_9.2 _ (by omega) (by omega)).2.1]; exact R_11_8
  have S_2_9 : isMach (mBo σ9) (o + 15) (o + 1) := Y0_9
  have R_15_9 : σ9.2.2.2.1 (o + 15) = upd (fun _ => 0) 0 1 := Y1_9
  have R_22_9 : σ9.2.2.2.1 (o + 22) = fun _ => 0 := Y2_9
  clear K_0_8 K_1_8 K_3_8 K_4_8 K_15_8 G_0_0_8 G_3_0_8 S_0_8 S_1_8 R_0_8 R_3_8 R_4_8 R_11_8 R_15_8 N_8 T_8 O_8 X_8 E_9 NN_9 TT_9 Y0_9 Y1_9 Y2_9 σ8
  show RC _ _ _ [some (.ref o)] [.ref (o + 15), .int 1, .ref (o + 3), .ref (o + 3), .ref o] σ9 _
  refine c_ast K_3_9 (Or.inr (Or.inl rfl)) K_15_9 (lt_in 1 2 rfl rfl) ?_
  rw [show ((1 : Int32)).toNatClampNeg = 1 by decide]
  obtain ⟨σ10, e10⟩ : ∃ x, x = mPr σ9 (o + 3) 1 (some (o + 15)) := ⟨_, rfl⟩
  rw [← e10]
  have N_10 : σ10.2.1.length = o + 26 := by rw [e10]; exact N_9
  have T_10 : σ10.1 = σ.1 + 597 := by rw [e10]; exact T_9
  have O_10 : rOK σ10 := by rw [e10]; exact rOK_pr O_9 (by omega)
  have X_10 : Ex σ σ10 o := by rw [e10]; exact X_9.pr (by omega)
  have K_0_10 : σ10.2.1[o]? = some (8, 0) := by rw [e10]; exact K_0_9
  have K_1_10 : σ10.2.1[o + 1]? = some (0, 0) := by rw [e10]; exact K_1_9
  have K_3_10 : σ10.2.1[o + 3]? = some (25, 2) := by rw [e10]; exact K_3_9
  have K_4_10 : σ10.2.1[o + 4]? = some (3, 0) := by rw [e10]; exact K_4_9
  have K_15_10 : σ10.2.1[o + 15]? = some (3, 0) := by rw [e10]; exact K_15_9
  have G_0_0_10 : σ10.2.2.1 o 0 = some (o + 1) := by rw [e10]; exact g_prO (by omega) G_0_0_9
  have G_3_0_10 : σ10.2.2.1 (o + 3) 0 = some (o + 4) := by rw [e10]; exact g_prK (by decide) G_3_0_9
  have S_0_10 : isDia (mBo σ10) (o + 1) := by rw [e10]; exact isDia_ext S_0_9 (fun q x h => h) (fun q h1 h2 => mup_ne (by omega))
  have S_1_10 : isMach (mBo σ10) (o + 4) (o + 1) := by rw [e10]; exact isMach_ext S_1_9 (fun q x h => h) (fun q h1 h2 => mup_ne (by omega)) (fun q h1 h2 => mup_ne (by omega))
  have S_2_10 : isMach (mBo σ10) (o + 15) (o + 1) := by rw [e10]; exact isMach_ext S_2_9 (fun q x h => h) (fun q h1 h2 => mup_ne (by omega)) (fun q h1 h2 => mup_ne (by omega))
  have R_0_10 : σ10.2.2.2.1 o = fun _ => 0 := by rw [e10]; exact R_0_9
  have R_3_10 : σ10.2.2.2.1 (o + 3) = fun _ => 0 := by rw [e10]; exact R_3_9
  have R_4_10 : σ10.2.2.2.1 (o + 4) = upd (fun _ => 0) 0 0 := by rw [e10]; exact R_4_9
  have R_11_10 : σ10.2.2.2.1 (o + 11) = fun _ => 0 := by rw [e10]; exact R_11_9
  have R_15_10 : σ10.2.2.2.1 (o + 15) = upd (fun _ => 0) 0 1 := by rw [e10]; exact R_15_9
  have R_22_10 : σ10.2.2.2.1 (o + 22) = fun _ => 0 := by rw [e10]; exact R_22_9
  have G_3_1_10 : σ10.2.2.1 (o + 3) 1 = some (o + 15) := by rw [e10]; exact g_prS
  clear K_0_9 K_1_9 K_3_9 K_4_9 K_15_9 G_0_0_9 G_3_0_9 S_0_9 S_1_9 S_2_9 R_0_9 R_3_9 R_4_9 R_11_9 R_15_9 R_22_9 N_9 T_9 O_9 X_9 e10 σ9
  show RC _ _ _ [some (.ref o)] [.ref (o + 3), .ref o] σ10 _
  refine c_putr K_0_10 ?_
  obtain ⟨σ11, e11⟩ : ∃ x, x = mPr σ10 o 1 (some (o + 3)) := ⟨_, rfl⟩
  rw [← e11]
  have N_11 : σ11.2.1.length = o + 26 := by rw [e11]; exact N_10
  have T_11 : σ11.1 = σ.1 + 597 := by rw [e11]; exact T_10
  have O_11 : rOK σ11 := by rw [e11]; exact rOK_pr O_10 (by omega)
  have X_11 : Ex σ σ11 o := by rw [e11]; exact X_10.pr (by omega)
  have K_0_11 : σ11.2.1[o]? = some (8, 0) := by rw [e11]; exact K_0_10
  have K_1_11 : σ11.2.1[o + 1]? = some (0, 0) := by rw [e11]; exact K_1_10
  have K_3_11 : σ11.2.1[o + 3]? = some (25, 2) := by rw [e11]; exact K_3_10
  have K_4_11 : σ11.2.1[o + 4]? = some (3, 0) := by rw [e11]; exact K_4_10
  have K_15_11 : σ11.2.1[o + 15]? = some (3, 0) := by rw [e11]; exact K_15_10
  have G_0_0_11 : σ11.2.2.1 o 0 = some (o + 1) := by rw [e11]; exact g_prK (by decide) G_0_0_10
  have G_3_0_11 : σ11.2.2.1 (o + 3) 0 = some (o + 4) := by rw [e11]; exact g_prO (by omega) G_3_0_10
  have G_3_1_11 : σ11.2.2.1 (o + 3) 1 = some (o + 15) := by rw [e11]; exact g_prO (by omega) G_3_1_10
  have S_0_11 : isDia (mBo σ11) (o + 1) := by rw [e11]; exact isDia_ext S_0_10 (fun q x h => h) (fun q h1 h2 => mup_ne (by omega))
  have S_1_11 : isMach (mBo σ11) (o + 4) (o + 1) := by rw [e11]; exact isMach_ext S_1_10 (fun q x h => h) (fun q h1 h2 => mup_ne (by omega)) (fun q h1 h2 => mup_ne (by omega))
  have S_2_11 : isMach (mBo σ11) (o + 15) (o + 1) := by rw [e11]; exact isMach_ext S_2_10 (fun q x h => h) (fun q h1 h2 => mup_ne (by omega)) (fun q h1 h2 => mup_ne (by omega))
  have R_0_11 : σ11.2.2.2.1 o = fun _ => 0 := by rw [e11]; exact R_0_10
  have R_3_11 : σ11.2.2.2.1 (o + 3) = fun _ => 0 := by rw [e11]; exact R_3_10
  have R_4_11 : σ11.2.2.2.1 (o + 4) = upd (fun _ => 0) 0 0 := by rw [e11]; exact R_4_10
  have R_11_11 : σ11.2.2.2.1 (o + 11) = fun _ => 0 := by rw [e11]; exact R_11_10
  have R_15_11 : σ11.2.2.2.1 (o + 15) = upd (fun _ => 0) 0 1 := by rw [e11]; exact R_15_10
  have R_22_11 : σ11.2.2.2.1 (o + 22) = fun _ => 0 := by rw [e11]; exact R_22_10
  have G_0_1_11 : σ11.2.2.1 o 1 = some (o + 3) := by rw [e11]; exact g_prS
  clear K_0_10 K_1_10 K_3_10 K_4_10 K_15_10 G_0_0_10 G_3_0_10 G_3_1_10 S_0_10 S_1_10 S_2_10 R_0_10 R_3_10 R_4_10 R_11_10 R_15_10 R_22_10 N_10 T_10 O_10 X_10 e11 σ10
  show RC _ _ _ [some (.ref o)] [] σ11 _
  refine c_retv (by omega) ?_
  exact ⟨X_11, by omega, T_11, O_11, ⟨K_0_11, S_0_11, K_3_11, S_1_11, S_2_11, G_0_0_11, G_0_1_11, G_3_0_11, G_3_1_11⟩, R_4_11, R_15_11, R_11_11, R_22_11⟩
