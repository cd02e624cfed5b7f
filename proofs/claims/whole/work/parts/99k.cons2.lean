/-! CONSTRUCTORS again: Program, Reader, History, the class, the reference (GENERATED, wip/gen/g18.py) -/
set_option maxRecDepth 20000 in
set_option maxHeartbeats 4000000 in
theorem nY4_init {d : Nat} {σ : mMH} {o : Nat} (hL : σ.2.1.length = o + 1) (hO : rOK σ) (hR : σ.2.2.2.1 o = fun _ => 0) (hK : σ.2.1[o]? = some (4, 0)) (hz : o + 14 ≤ 1000000) : CC (d + 4) 68 [.ref o] σ (fun τ => Ex σ τ o ∧ τ.2.1.length = o + 1 + 13 ∧ τ.1 = σ.1 + 658 ∧ rOK τ ∧ isPrg (mBo τ) o ∧ τ.2.2.2.1 o = (FX4_empty (fun _ => 0) (fun _ => 0)).2.1 ∧ τ.2.2.2.1 (o + 13) = (FX4_empty (fun _ => 0) (fun _ => 0)).2.2) := by
  have K_0_0 := hK
  have R_0_0 := hR
  have O_0 := hO
  have N_0 := hL
  have T_0 : σ.1 = σ.1 + 0 := rfl
  have X_0 : Ex σ σ o := Ex.rf
  refine c_begin mt_68 (by intro a ha; simp only [List.mem_cons, List.not_mem_nil, or_false] at ha; rcases ha with rfl <;> rfl) (Nat.le_of_ble_eq_true rfl) ?_
  show RC _ _ _ [some (.ref o)] [] σ _
  refine c_aload rfl ?_
  refine c_obj (Nat.le_of_ble_eq_true rfl) ?_
  refine c_aload rfl ?_
  refine c_int ?_
  refine c_newa (t := 0) (z := 100) (by decide) (by decide) (mOut_lt (ltL [o] rfl (List.forall_mem_cons.mpr ⟨by omega, (fun _ h => absurd h List.not_mem_nil)⟩)) (ltS [o] rfl (List.forall_mem_cons.mpr ⟨by omega, (fun _ h => absurd h List.not_mem_nil)⟩))) O_0 ?_
  rw [show ((100 : Int32)).toNatClampNeg = 100 by decide]
  obtain ⟨σ1, e1⟩ : ∃ x, x = mNew σ 20 100 100 := ⟨_, rfl⟩
  rw [← e1, show σ.2.1.length = o + 1 by omega]
  have N_1 : σ1.2.1.length = o + 2 := by rw [e1, len_new]; omega
  have T_1 : σ1.1 = σ.1 + 100 := by rw [e1]; show σ.1 + 100 = _; omega
  have O_1 : rOK σ1 := by rw [e1]; exact rOK_new O_0
  have X_1 : Ex σ σ1 o := by rw [e1]; exact X_0.new (by omega)
  have K_0_1 : σ1.2.1[o]? = some (4, 0) := by rw [e1]; exact k_new K_0_0
  have R_0_1 : σ1.2.2.2.1 o = fun _ => 0 := by rw [e1]; exact (mup_ne (by omega)).trans R_0_0
  have K_1_1 : σ1.2.1[o + 1]? = some (20, 100) := by rw [e1, ← show σ.2.1.length = o + 1 by omega]; exact k_newS
  have R_1_1 : σ1.2.2.2.1 (o + 1) = fun _ => 0 := by rw [e1, ← show σ.2.1.length = o + 1 by omega]; exact mup_eq
  clear K_0_0 R_0_0 N_0 T_0 O_0 X_0 e1
  show RC _ _ _ [some (.ref o)] [.ref (o + 1), .ref o] σ1 _
  refine c_putr K_0_1 ?_
  obtain ⟨σ2, e2⟩ : ∃ x, x = mPr σ1 o 2 (some (o + 1)) := ⟨_, rfl⟩
  rw [← e2]
  have N_2 : σ2.2.1.length = o + 2 := by rw [e2]; exact N_1
  have T_2 : σ2.1 = σ.1 + 100 := by rw [e2]; exact T_1
  have O_2 : rOK σ2 := by rw [e2]; exact rOK_pr O_1 (by omega)
  have X_2 : Ex σ σ2 o := by rw [e2]; exact X_1.pr (by omega)
  have K_0_2 : σ2.2.1[o]? = some (4, 0) := by rw [e2]; exact K_0_1
  have K_1_2 : σ2.2.1[o + 1]? = some (20, 100) := by rw [e2]; exact K_1_1
  have R_0_2 : σ2.2.2.2.1 o = fun _ => 0 := by rw [e2]; exact R_0_1
  have R_1_2 : σ2.2.2.2.1 (o + 1) = fun _ => 0 := by rw [e2]; exact R_1_1
  have G_0_2_2 : σ2.2.2.1 o 2 = some (o + 1) := by rw [e2]; exact g_prS
  clear K_0_1 K_1_1 R_0_1 R_1_1 N_1 T_1 O_1 X_1 e2 σ1
  show RC _ _ _ [some (.ref o)] [] σ2 _
  refine c_aload rfl ?_
  refine c_int ?_
  refine c_newa (t := 0) (z := 100) (by decide) (by decide) (mOut_lt (ltL [o] rfl (List.forall_mem_cons.mpr ⟨by omega, (fun _ h => absurd h List.not_mem_nil)⟩)) (ltS [o] rfl (List.forall_mem_cons.mpr ⟨by omega, (fun _ h => absurd h List.not_mem_nil)⟩))) O_2 ?_
  rw [show ((100 : Int32)).toNatClampNeg = 100 by decide]
  obtain ⟨σ3, e3⟩ : ∃ x, x = mNew σ2 20 100 100 := ⟨_, rfl⟩
  rw [← e3, show σ2.2.1.length = o + 2 by omega]
  have N_3 : σ3.2.1.length = o + 3 := by rw [e3, len_new]; omega
  have T_3 : σ3.1 = σ.1 + 200 := by rw [e3]; show σ2.1 + 100 = _; omega
  have O_3 : rOK σ3 := by rw [e3]; exact rOK_new O_2
  have X_3 : Ex σ σ3 o := by rw [e3]; exact X_2.new (by omega)
  have K_0_3 : σ3.2.1[o]? = some (4, 0) := by rw [e3]; exact k_new K_0_2
  have K_1_3 : σ3.2.1[o + 1]? = some (20, 100) := by rw [e3]; exact k_new K_1_2
  have G_0_2_3 : σ3.2.2.1 o 2 = some (o + 1) := by rw [e3]; exact g_new (by omega) G_0_2_2
  have R_0_3 : σ3.2.2.2.1 o = fun _ => 0 := by rw [e3]; exact (mup_ne (by omega)).trans R_0_2
  have R_1_3 : σ3.2.2.2.1 (o + 1) = fun _ => 0 := by rw [e3]; exact (mup_ne (by omega)).trans R_1_2
  have K_2_3 : σ3.2.1[o + 2]? = some (20, 100) := by rw [e3, ← show σ2.2.1.length = o + 2 by omega]; exact k_newS
  have R_2_3 : σ3.2.2.2.1 (o + 2) = fun _ => 0 := by rw [e3, ← show σ2.2.1.length = o + 2 by omega]; exact mup_eq
  clear K_0_2 K_1_2 G_0_2_2 R_0_2 R_1_2 N_2 T_2 O_2 X_2 e3 σ2
  show RC _ _ _ [some (.ref o)] [.ref (o + 2), .ref o] σ3 _
  refine c_putr K_0_3 ?_
  obtain ⟨σ4, e4⟩ : ∃ x, x = mPr σ3 o 3 (some (o + 2)) := ⟨_, rfl⟩
  rw [← e4]
  have N_4 : σ4.2.1.length = o + 3 := by rw [e4]; exact N_3
  have T_4 : σ4.1 = σ.1 + 200 := by rw [e4]; exact T_3
  have O_4 : rOK σ4 := by rw [e4]; exact rOK_pr O_3 (by omega)
  have X_4 : Ex σ σ4 o := by rw [e4]; exact X_3.pr (by omega)
  have K_0_4 : σ4.2.1[o]? = some (4, 0) := by rw [e4]; exact K_0_3
  have K_1_4 : σ4.2.1[o + 1]? = some (20, 100) := by rw [e4]; exact K_1_3
  have K_2_4 : σ4.2.1[o + 2]? = some (20, 100) := by rw [e4]; exact K_2_3
  have G_0_2_4 : σ4.2.2.1 o 2 = some (o + 1) := by rw [e4]; exact g_prK (by decide) G_0_2_3
  have R_0_4 : σ4.2.2.2.1 o = fun _ => 0 := by rw [e4]; exact R_0_3
  have R_1_4 : σ4.2.2.2.1 (o + 1) = fun _ => 0 := by rw [e4]; exact R_1_3
  have R_2_4 : σ4.2.2.2.1 (o + 2) = fun _ => 0 := by rw [e4]; exact R_2_3
  have G_0_3_4 : σ4.2.2.1 o 3 = some (o + 2) := by rw [e4]; exact g_prS
  clear K_0_3 K_1_3 K_2_3 G_0_2_3 R_0_3 R_1_3 R_2_3 N_3 T_3 O_3 X_3 e4 σ3
  show RC _ _ _ [some (.ref o)] [] σ4 _
  refine c_aload rfl ?_
  refine c_int ?_
  refine c_newa (t := 0) (z := 101) (by decide) (by decide) (mOut_lt (ltL [o] rfl (List.forall_mem_cons.mpr ⟨by omega, (fun _ h => absurd h List.not_mem_nil)⟩)) (ltS [o] rfl (List.forall_mem_cons.mpr ⟨by omega, (fun _ h => absurd h List.not_mem_nil)⟩))) O_4 ?_
  rw [show ((101 : Int32)).toNatClampNeg = 101 by decide]
  obtain ⟨σ5, e5⟩ : ∃ x, x = mNew σ4 20 101 101 := ⟨_, rfl⟩
  rw [← e5, show σ4.2.1.length = o + 3 by omega]
  have N_5 : σ5.2.1.length = o + 4 := by rw [e5, len_new]; omega
  have T_5 : σ5.1 = σ.1 + 301 := by rw [e5]; show σ4.1 + 101 = _; omega
  have O_5 : rOK σ5 := by rw [e5]; exact rOK_new O_4
  have X_5 : Ex σ σ5 o := by rw [e5]; exact X_4.new (by omega)
  have K_0_5 : σ5.2.1[o]? = some (4, 0) := by rw [e5]; exact k_new K_0_4
  have K_1_5 : σ5.2.1[o + 1]? = some (20, 100) := by rw [e5]; exact k_new K_1_4
  have K_2_5 : σ5.2.1[o + 2]? = some (20, 100) := by rw [e5]; exact k_new K_2_4
  have G_0_2_5 : σ5.2.2.1 o 2 = some (o + 1) := by rw [e5]; exact g_new (by omega) G_0_2_4
  have G_0_3_5 : σ5.2.2.1 o 3 = some (o + 2) := by rw [e5]; exact g_new (by omega) G_0_3_4
  have R_0_5 : σ5.2.2.2.1 o = fun _ => 0 := by rw [e5]; exact (mup_ne (by omega)).trans R_0_4
  have R_1_5 : σ5.2.2.2.1 (o + 1) = fun _ => 0 := by rw [e5]; exact (mup_ne (by omega)).trans R_1_4
  have R_2_5 : σ5.2.2.2.1 (o + 2) = fun _ => 0 := by rw [e5]; exact (mup_ne (by omega)).trans R_2_4
  have K_3_5 : σ5.2.1[o + 3]? = some (20, 101) := by rw [e5, ← show σ4.2.1.length = o + 3 by omega]; exact k_newS
  have R_3_5 : σ5.2.2.2.1 (o + 3) = fun _ => 0 := by rw [e5, ← show σ4.2.1.length = o + 3 by omega]; exact mup_eq
  clear K_0_4 K_1_4 K_2_4 G_0_2_4 G_0_3_4 R_0_4 R_1_4 R_2_4 N_4 T_4 O_4 X_4 e5 σ4
  show RC _ _ _ [some (.ref o)] [.ref (o + 3), .ref o] σ5 _
  refine c_putr K_0_5 ?_
  obtain ⟨σ6, e6⟩ : ∃ x, x = mPr σ5 o 5 (some (o + 3)) := ⟨_, rfl⟩
  rw [← e6]
  have N_6 : σ6.2.1.length = o + 4 := by rw [e6]; exact N_5
  have T_6 : σ6.1 = σ.1 + 301 := by rw [e6]; exact T_5
  have O_6 : rOK σ6 := by rw [e6]; exact rOK_pr O_5 (by omega)
  have X_6 : Ex σ σ6 o := by rw [e6]; exact X_5.pr (by omega)
  have K_0_6 : σ6.2.1[o]? = some (4, 0) := by rw [e6]; exact K_0_5
  have K_1_6 : σ6.2.1[o + 1]? = some (20, 100) := by rw [e6]; exact K_1_5
  have K_2_6 : σ6.2.1[o + 2]? = some (20, 100) := by rw [e6]; exact K_2_5
  have K_3_6 : σ6.2.1[o + 3]? = some (20, 101) := by rw [e6]; exact K_3_5
  have G_0_2_6 : σ6.2.2.1 o 2 = some (o + 1) := by rw [e6]; exact g_prK (by decide) G_0_2_5
  have G_0_3_6 : σ6.2.2.1 o 3 = some (o + 2) := by rw [e6]; exact g_prK (by decide) G_0_3_5
  have R_0_6 : σ6.2.2.2.1 o = fun _ => 0 := by rw [e6]; exact R_0_5
  have R_1_6 : σ6.2.2.2.1 (o + 1) = fun _ => 0 := by rw [e6]; exact R_1_5
  have R_2_6 : σ6.2.2.2.1 (o + 2) = fun _ => 0 := by rw [e6]; exact R_2_5
  have R_3_6 : σ6.2.2.2.1 (o + 3) = fun _ => 0 := by rw [e6]; exact R_3_5
  have G_0_5_6 : σ6.2.2.1 o 5 = some (o + 3) := by rw [e6]; exact g_prS
  clear K_0_5 K_1_5 K_2_5 K_3_5 G_0_2_5 G_0_3_5 R_0_5 R_1_5 R_2_5 R_3_5 N_5 T_5 O_5 X_5 e6 σ5
  show RC _ _ _ [some (.ref o)] [] σ6 _
  refine c_aload rfl ?_
  refine c_int ?_
  refine c_newa (t := 0) (z := 101) (by decide) (by decide) (mOut_lt (ltL [o] rfl (List.forall_mem_cons.mpr ⟨by omega, (fun _ h => absurd h List.not_mem_nil)⟩)) (ltS [o] rfl (List.forall_mem_cons.mpr ⟨by omega, (fun _ h => absurd h List.not_mem_nil)⟩))) O_6 ?_
  rw [show ((101 : Int32)).toNatClampNeg = 101 by decide]
  obtain ⟨σ7, e7⟩ : ∃ x, x = mNew σ6 20 101 101 := ⟨_, rfl⟩
  rw [← e7, show σ6.2.1.length = o + 4 by omega]
  have N_7 : σ7.2.1.length = o + 5 := by rw [e7, len_new]; omega
  have T_7 : σ7.1 = σ.1 + 402 := by rw [e7]; show σ6.1 + 101 = _; omega
  have O_7 : rOK σ7 := by rw [e7]; exact rOK_new O_6
  have X_7 : Ex σ σ7 o := by rw [e7]; exact X_6.new (by omega)
  have K_0_7 : σ7.2.1[o]? = some (4, 0) := by rw [e7]; exact k_new K_0_6
  have K_1_7 : σ7.2.1[o + 1]? = some (20, 100) := by rw [e7]; exact k_new K_1_6
  have K_2_7 : σ7.2.1[o + 2]? = some (20, 100) := by rw [e7]; exact k_new K_2_6
  have K_3_7 : σ7.2.1[o + 3]? = some (20, 101) := by rw [e7]; exact k_new K_3_6
  have G_0_2_7 : σ7.2.2.1 o 2 = some (o + 1) := by rw [e7]; exact g_new (by omega) G_0_2_6
  have G_0_3_7 : σ7.2.2.1 o 3 = some (o + 2) := by rw [e7]; exact g_new (by omega) G_0_3_6
  have G_0_5_7 : σ7.2.2.1 o 5 = some (o + 3) := by rw [e7]; exact g_new (by omega) G_0_5_6
  have R_0_7 : σ7.2.2.2.1 o = fun _ => 0 := by rw [e7]; exact (mup_ne (by omega)).trans R_0_6
  have R_1_7 : σ7.2.2.2.1 (o + 1) = fun _ => 0 := by rw [e7]; exact (mup_ne (by omega)).trans R_1_6
  have R_2_7 : σ7.2.2.2.1 (o + 2) = fun _ => 0 := by rw [e7]; exact (mup_ne (by omega)).trans R_2_6
  have R_3_7 : σ7.2.2.2.1 (o + 3) = fun _ => 0 := by rw [e7]; exact (mup_ne (by omega)).trans R_3_6
  have K_4_7 : σ7.2.1[o + 4]? = some (20, 101) := by rw [e7, ← show σ6.2.1.length = o + 4 by omega]; exact k_newS
  have R_4_7 : σ7.2.2.2.1 (o + 4) = fun _ => 0 := by rw [e7, ← show σ6.2.1.length = o + 4 by omega]; exact mup_eq
  clear K_0_6 K_1_6 K_2_6 K_3_6 G_0_2_6 G_0_3_6 G_0_5_6 R_0_6 R_1_6 R_2_6 R_3_6 N_6 T_6 O_6 X_6 e7 σ6
  show RC _ _ _ [some (.ref o)] [.ref (o + 4), .ref o] σ7 _
  refine c_putr K_0_7 ?_
  obtain ⟨σ8, e8⟩ : ∃ x, x = mPr σ7 o 6 (some (o + 4)) := ⟨_, rfl⟩
  rw [← e8]
  have N_8 : σ8.2.1.length = o + 5 := by rw [e8]; exact N_7
  have T_8 : σ8.1 = σ.1 + 402 := by rw [e8]; exact T_7
  have O_8 : rOK σ8 := by rw [e8]; exact rOK_pr O_7 (by omega)
  have X_8 : Ex σ σ8 o := by rw [e8]; exact X_7.pr (by omega)
  have K_0_8 : σ8.2.1[o]? = some (4, 0) := by rw [e8]; exact K_0_7
  have K_1_8 : σ8.2.1[o + 1]? = some (20, 100) := by rw [e8]; exact K_1_7
  have K_2_8 : σ8.2.1[o + 2]? = some (20, 100) := by rw [e8]; exact K_2_7
  have K_3_8 : σ8.2.1[o + 3]? = some (20, 101) := by rw [e8]; exact K_3_7
  have K_4_8 : σ8.2.1[o + 4]? = some (20, 101) := by rw [e8]; exact K_4_7
  have G_0_2_8 : σ8.2.2.1 o 2 = some (o + 1) := by rw [e8]; exact g_prK (by decide) G_0_2_7
  have G_0_3_8 : σ8.2.2.1 o 3 = some (o + 2) := by rw [e8]; exact g_prK (by decide) G_0_3_7
  have G_0_5_8 : σ8.2.2.1 o 5 = some (o + 3) := by rw [e8]; exact g_prK (by decide) G_0_5_7
  have R_0_8 : σ8.2.2.2.1 o = fun _ => 0 := by rw [e8]; exact R_0_7
  have R_1_8 : σ8.2.2.2.1 (o + 1) = fun _ => 0 := by rw [e8]; exact R_1_7
  have R_2_8 : σ8.2.2.2.1 (o + 2) = fun _ => 0 := by rw [e8]; exact R_2_7
  have R_3_8 : σ8.2.2.2.1 (o + 3) = fun _ => 0 := by rw [e8]; exact R_3_7
  have R_4_8 : σ8.2.2.2.1 (o + 4) = fun _ => 0 := by rw [e8]; exact R_4_7
  have G_0_6_8 : σ8.2.2.1 o 6 = some (o + 4) := by rw [e8]; exact g_prS
  clear K_0_7 K_1_7 K_2_7 K_3_7 K_4_7 G_0_2_7 G_0_3_7 G_0_5_7 R_0_7 R_1_7 R_2_7 R_3_7 R_4_7 N_7 T_7 O_7 X_7 e8 σ7
  show RC _ _ _ [some (.ref o)] [] σ8 _
  refine c_aload rfl ?_
  refine c_int ?_
  refine c_newa (t := 0) (z := 4) (by decide) (by decide) (mOut_lt (ltL [o] rfl (List.forall_mem_cons.mpr ⟨by omega, (fun _ h => absurd h List.not_mem_nil)⟩)) (ltS [o] rfl (List.forall_mem_cons.mpr ⟨by omega, (fun _ h => absurd h List.not_mem_nil)⟩))) O_8 ?_
  rw [show ((4 : Int32)).toNatClampNeg = 4 by decide]
  obtain ⟨σ9, e9⟩ : ∃ x, x = mNew σ8 20 4 4 := ⟨_, rfl⟩
  rw [← e9, show σ8.2.1.length = o + 5 by omega]
  have N_9 : σ9.2.1.length = o + 6 := by rw [e9, len_new]; omega
  have T_9 : σ9.1 = σ.1 + 406 := by rw [e9]; show σ8.1 + 4 = _; omega
  have O_9 : rOK σ9 := by rw [e9]; exact rOK_new O_8
  have X_9 : Ex σ σ9 o := by rw [e9]; exact X_8.new (by omega)
  have K_0_9 : σ9.2.1[o]? = some (4, 0) := by rw [e9]; exact k_new K_0_8
  have K_1_9 : σ9.2.1[o + 1]? = some (20, 100) := by rw [e9]; exact k_new K_1_8
  have K_2_9 : σ9.2.1[o + 2]? = some (20, 100) := by rw [e9]; exact k_new K_2_8
  have K_3_9 : σ9.2.1[o + 3]? = some (20, 101) := by rw [e9]; exact k_new K_3_8
  have K_4_9 : σ9.2.1[o + 4]? = some (20, 101) := by rw [e9]; exact k_new K_4_8
  have G_0_2_9 : σ9.2.2.1 o 2 = some (o + 1) := by rw [e9]; exact g_new (by omega) G_0_2_8
  have G_0_3_9 : σ9.2.2.1 o 3 = some (o + 2) := by rw [e9]; exact g_new (by omega) G_0_3_8
  have G_0_5_9 : σ9.2.2.1 o 5 = some (o + 3) := by rw [e9]; exact g_new (by omega) G_0_5_8
  have G_0_6_9 : σ9.2.2.1 o 6 = some (o + 4) := by rw [e9]; exact g_new (by omega) G_0_6_8
  have R_0_9 : σ9.2.2.2.1 o = fun _ => 0 := by rw [e9]; exact (mup_ne (by omega)).trans R_0_8
  have R_1_9 : σ9.2.2.2.1 (o + 1) = fun _ => 0 := by rw [e9]; exact (mup_ne (by omega)).trans R_1_8
  have R_2_9 : σ9.2.2.2.1 (o + 2) = fun _ => 0 := by rw [e9]; exact (mup_ne (by omega)).trans R_2_8
  have R_3_9 : σ9.2.2.2.1 (o + 3) = fun _ => 0 := by rw [e9]; exact (mup_ne (by omega)).trans R_3_8
  have R_4_9 : σ9.2.2.2.1 (o + 4) = fun _ => 0 := by rw [e9]; exact (mup_ne (by omega)).trans R_4_8
  have K_5_9 : σ9.2.1[o + 5]? = some (20, 4) := by rw [e9, ← show σ8.2.1.length = o + 5 by omega]; exact k_newS
  have R_5_9 : σ9.2.2.2.1 (o + 5) = fun _ => 0 := by rw [e9, ← show σ8.2.1.length = o + 5 by omega]; exact mup_eq
  clear K_0_8 K_1_8 K_2_8 K_3_8 K_4_8 G_0_2_8 G_0_3_8 G_0_5_8 G_0_6_8 R_0_8 R_1_8 R_2_8 R_3_8 R_4_8 N_8 T_8 O_8 X_8 e9 σ8
  show RC _ _ _ [some (.ref o)] [.ref (o + 5), .ref o] σ9 _
  refine c_putr K_0_9 ?_
  obtain ⟨σ10, e10⟩ : ∃ x, x = mPr σ9 o 8 (some (o + 5)) := ⟨_, rfl⟩
  rw [← e10]
  have N_10 : σ10.2.1.length = o + 6 := by rw [e10]; exact N_9
  have T_10 : σ10.1 = σ.1 + 406 := by rw [e10]; exact T_9
  have O_10 : rOK σ10 := by rw [e10]; exact rOK_pr O_9 (by omega)
  have X_10 : Ex σ σ10 o := by rw [e10]; exact X_9.pr (by omega)
  have K_0_10 : σ10.2.1[o]? = some (4, 0) := by rw [e10]; exact K_0_9
  have K_1_10 : σ10.2.1[o + 1]? = some (20, 100) := by rw [e10]; exact K_1_9
  have K_2_10 : σ10.2.1[o + 2]? = some (20, 100) := by rw [e10]; exact K_2_9
  have K_3_10 : σ10.2.1[o + 3]? = some (20, 101) := by rw [e10]; exact K_3_9
  have K_4_10 : σ10.2.1[o + 4]? = some (20, 101) := by rw [e10]; exact K_4_9
  have K_5_10 : σ10.2.1[o + 5]? = some (20, 4) := by rw [e10]; exact K_5_9
  have G_0_2_10 : σ10.2.2.1 o 2 = some (o + 1) := by rw [e10]; exact g_prK (by decide) G_0_2_9
  have G_0_3_10 : σ10.2.2.1 o 3 = some (o + 2) := by rw [e10]; exact g_prK (by decide) G_0_3_9
  have G_0_5_10 : σ10.2.2.1 o 5 = some (o + 3) := by rw [e10]; exact g_prK (by decide) G_0_5_9
  have G_0_6_10 : σ10.2.2.1 o 6 = some (o + 4) := by rw [e10]; exact g_prK (by decide) G_0_6_9
  have R_0_10 : σ10.2.2.2.1 o = fun _ => 0 := by rw [e10]; exact R_0_9
  have R_1_10 : σ10.2.2.2.1 (o + 1) = fun _ => 0 := by rw [e10]; exact R_1_9
  have R_2_10 : σ10.2.2.2.1 (o + 2) = fun _ => 0 := by rw [e10]; exact R_2_9
  have R_3_10 : σ10.2.2.2.1 (o + 3) = fun _ => 0 := by rw [e10]; exact R_3_9
  have R_4_10 : σ10.2.2.2.1 (o + 4) = fun _ => 0 := by rw [e10]; exact R_4_9
  have R_5_10 : σ10.2.2.2.1 (o + 5) = fun _ => 0 := by rw [e10]; exact R_5_9
  have G_0_8_10 : σ10.2.2.1 o 8 = some (o + 5) := by rw [e10]; exact g_prS
  clear K_0_9 K_1_9 K_2_9 K_3_9 K_4_9 K_5_9 G_0_2_9 G_0_3_9 G_0_5_9 G_0_6_9 R_0_9 R_1_9 R_2_9 R_3_9 R_4_9 R_5_9 N_9 T_9 O_9 X_9 e10 σ9
  show RC _ _ _ [some (.ref o)] [] σ10 _
  refine c_aload rfl ?_
  refine c_int ?_
  refine c_newa (t := 0) (z := 4) (by decide) (by decide) (mOut_lt (ltL [o] rfl (List.forall_mem_cons.mpr ⟨by omega, (fun _ h => absurd h List.not_mem_nil)⟩)) (ltS [o] rfl (List.forall_mem_cons.mpr ⟨by omega, (fun _ h => absurd h List.not_mem_nil)⟩))) O_10 ?_
  rw [show ((4 : Int32)).toNatClampNeg = 4 by decide]
  obtain ⟨σ11, e11⟩ : ∃ x, x = mNew σ10 20 4 4 := ⟨_, rfl⟩
  rw [← e11, show σ10.2.1.length = o + 6 by omega]
  have N_11 : σ11.2.1.length = o + 7 := by rw [e11, len_new]; omega
  have T_11 : σ11.1 = σ.1 + 410 := by rw [e11]; show σ10.1 + 4 = _; omega
  have O_11 : rOK σ11 := by rw [e11]; exact rOK_new O_10
  have X_11 : Ex σ σ11 o := by rw [e11]; exact X_10.new (by omega)
  have K_0_11 : σ11.2.1[o]? = some (4, 0) := by rw [e11]; exact k_new K_0_10
  have K_1_11 : σ11.2.1[o + 1]? = some (20, 100) := by rw [e11]; exact k_new K_1_10
  have K_2_11 : σ11.2.1[o + 2]? = some (20, 100) := by rw [e11]; exact k_new K_2_10
  have K_3_11 : σ11.2.1[o + 3]? = some (20, 101) := by rw [e11]; exact k_new K_3_10
  have K_4_11 : σ11.2.1[o + 4]? = some (20, 101) := by rw [e11]; exact k_new K_4_10
  have K_5_11 : σ11.2.1[o + 5]? = some (20, 4) := by rw [e11]; exact k_new K_5_10
  have G_0_2_11 : σ11.2.2.1 o 2 = some (o + 1) := by rw [e11]; exact g_new (by omega) G_0_2_10
  have G_0_3_11 : σ11.2.2.1 o 3 = some (o + 2) := by rw [e11]; exact g_new (by omega) G_0_3_10
  have G_0_5_11 : σ11.2.2.1 o 5 = some (o + 3) := by rw [e11]; exact g_new (by omega) G_0_5_10
  have G_0_6_11 : σ11.2.2.1 o 6 = some (o + 4) := by rw [e11]; exact g_new (by omega) G_0_6_10
  have G_0_8_11 : σ11.2.2.1 o 8 = some (o + 5) := by rw [e11]; exact g_new (by omega) G_0_8_10
  have R_0_11 : σ11.2.2.2.1 o = fun _ => 0 := by rw [e11]; exact (mup_ne (by omega)).trans R_0_10
  have R_1_11 : σ11.2.2.2.1 (o + 1) = fun _ => 0 := by rw [e11]; exact (mup_ne (by omega)).trans R_1_10
  have R_2_11 : σ11.2.2.2.1 (o + 2) = fun _ => 0 := by rw [e11]; exact (mup_ne (by omega)).trans R_2_10
  have R_3_11 : σ11.2.2.2.1 (o + 3) = fun _ => 0 := by rw [e11]; exact (mup_ne (by omega)).trans R_3_10
  have R_4_11 : σ11.2.2.2.1 (o + 4) = fun _ => 0 := by rw [e11]; exact (mup_ne (by omega)).trans R_4_10
  have R_5_11 : σ11.2.2.2.1 (o + 5) = fun _ => 0 := by rw [e11]; exact (mup_ne (by omega)).trans R_5_10
  have K_6_11 : σ11.2.1[o + 6]? = some (20, 4) := by rw [e11, ← show σ10.2.1.length = o + 6 by omega]; exact k_newS
  have R_6_11 : σ11.2.2.2.1 (o + 6) = fun _ => 0 := by rw [e11, ← show σ10.2.1.length = o + 6 by omega]; exact mup_eq
  clear K_0_10 K_1_10 K_2_10 K_3_10 K_4_10 K_5_10 G_0_2_10 G_0_3_10 G_0_5_10 G_0_6_10 G_0_8_10 R_0_10 R_1_10 R_2_10 R_3_10 R_4_10 R_5_10 N_10 T_10 O_10 X_10 e11 σ10
  show RC _ _ _ [some (.ref o)] [.ref (o + 6), .ref o] σ11 _
  refine c_putr K_0_11 ?_
  obtain ⟨σ12, e12⟩ : ∃ x, x = mPr σ11 o 9 (some (o + 6)) := ⟨_, rfl⟩
  rw [← e12]
  have N_12 : σ12.2.1.length = o + 7 := by rw [e12]; exact N_11
  have T_12 : σ12.1 = σ.1 + 410 := by rw [e12]; exact T_11
  have O_12 : rOK σ12 := by rw [e12]; exact rOK_pr O_11 (by omega)
  have X_12 : Ex σ σ12 o := by rw [e12]; exact X_11.pr (by omega)
  have K_0_12 : σ12.2.1[o]? = some (4, 0) := by rw [e12]; exact K_0_11
  have K_1_12 : σ12.2.1[o + 1]? = some (20, 100) := by rw [e12]; exact K_1_11
  have K_2_12 : σ12.2.1[o + 2]? = some (20, 100) := by rw [e12]; exact K_2_11
  have K_3_12 : σ12.2.1[o + 3]? = some (20, 101) := by rw [e12]; exact K_3_11
  have K_4_12 : σ12.2.1[o + 4]? = some (20, 101) := by rw [e12]; exact K_4_11
  have K_5_12 : σ12.2.1[o + 5]? = some (20, 4) := by rw [e12]; exact K_5_11
  have K_6_12 : σ12.2.1[o + 6]? = some (20, 4) := by rw [e12]; exact K_6_11
  have G_0_2_12 : σ12.2.2.1 o 2 = some (o + 1) := by rw [e12]; exact g_prK (by decide) G_0_2_11
  have G_0_3_12 : σ12.2.2.1 o 3 = some (o + 2) := by rw [e12]; exact g_prK (by decide) G_0_3_11
  have G_0_5_12 : σ12.2.2.1 o 5 = some (o + 3) := by rw [e12]; exact g_prK (by decide) G_0_5_11
  have G_0_6_12 : σ12.2.2.1 o 6 = some (o + 4) := by rw [e12]; exact g_prK (by decide) G_0_6_11
  have G_0_8_12 : σ12.2.2.1 o 8 = some (o + 5) := by rw [e12]; exact g_prK (by decide) G_0_8_11
  have R_0_12 : σ12.2.2.2.1 o = fun _ => 0 := by rw [e12]; exact R_0_11
  have R_1_12 : σ12.2.2.2.1 (o + 1) = fun _ => 0 := by rw [e12]; exact R_1_11
  have R_2_12 : σ12.2.2.2.1 (o + 2) = fun _ => 0 := by rw [e12]; exact R_2_11
  have R_3_12 : σ12.2.2.2.1 (o + 3) = fun _ => 0 := by rw [e12]; exact R_3_11
  have R_4_12 : σ12.2.2.2.1 (o + 4) = fun _ => 0 := by rw [e12]; exact R_4_11
  have R_5_12 : σ12.2.2.2.1 (o + 5) = fun _ => 0 := by rw [e12]; exact R_5_11
  have R_6_12 : σ12.2.2.2.1 (o + 6) = fun _ => 0 := by rw [e12]; exact R_6_11
  have G_0_9_12 : σ12.2.2.1 o 9 = some (o + 6) := by rw [e12]; exact g_prS
  clear K_0_11 K_1_11 K_2_11 K_3_11 K_4_11 K_5_11 K_6_11 G_0_2_11 G_0_3_11 G_0_5_11 G_0_6_11 G_0_8_11 R_0_11 R_1_11 R_2_11 R_3_11 R_4_11 R_5_11 R_6_11 N_11 T_11 O_11 X_11 e12 σ11
  show RC _ _ _ [some (.ref o)] [] σ12 _
  refine c_aload rfl ?_
  refine c_int ?_
  refine c_newa (t := 0) (z := 4) (by decide) (by decide) (mOut_lt (ltL [o] rfl (List.forall_mem_cons.mpr ⟨by omega, (fun _ h => absurd h List.not_mem_nil)⟩)) (ltS [o] rfl (List.forall_mem_cons.mpr ⟨by omega, (fun _ h => absurd h List.not_mem_nil)⟩))) O_12 ?_
  rw [show ((4 : Int32)).toNatClampNeg = 4 by decide]
  obtain ⟨σ13, e13⟩ : ∃ x, x = mNew σ12 20 4 4 := ⟨_, rfl⟩
  rw [← e13, show σ12.2.1.length = o + 7 by omega]
  have N_13 : σ13.2.1.length = o + 8 := by rw [e13, len_new]; omega
  have T_13 : σ13.1 = σ.1 + 414 := by rw [e13]; show σ12.1 + 4 = _; omega
  have O_13 : rOK σ13 := by rw [e13]; exact rOK_new O_12
  have X_13 : Ex σ σ13 o := by rw [e13]; exact X_12.new (by omega)
  have K_0_13 : σ13.2.1[o]? = some (4, 0) := by rw [e13]; exact k_new K_0_12
  have K_1_13 : σ13.2.1[o + 1]? = some (20, 100) := by rw [e13]; exact k_new K_1_12
  have K_2_13 : σ13.2.1[o + 2]? = some (20, 100) := by rw [e13]; exact k_new K_2_12
  have K_3_13 : σ13.2.1[o + 3]? = some (20, 101) := by rw [e13]; exact k_new K_3_12
  have K_4_13 : σ13.2.1[o + 4]? = some (20, 101) := by rw [e13]; exact k_new K_4_12
  have K_5_13 : σ13.2.1[o + 5]? = some (20, 4) := by rw [e13]; exact k_new K_5_12
  have K_6_13 : σ13.2.1[o + 6]? = some (20, 4) := by rw [e13]; exact k_new K_6_12
  have G_0_2_13 : σ13.2.2.1 o 2 = some (o + 1) := by rw [e13]; exact g_new (by omega) G_0_2_12
  have G_0_3_13 : σ13.2.2.1 o 3 = some (o + 2) := by rw [e13]; exact g_new (by omega) G_0_3_12
  have G_0_5_13 : σ13.2.2.1 o 5 = some (o + 3) := by rw [e13]; exact g_new (by omega) G_0_5_12
  have G_0_6_13 : σ13.2.2.1 o 6 = some (o + 4) := by rw [e13]; exact g_new (by omega) G_0_6_12
  have G_0_8_13 : σ13.2.2.1 o 8 = some (o + 5) := by rw [e13]; exact g_new (by omega) G_0_8_12
  have G_0_9_13 : σ13.2.2.1 o 9 = some (o + 6) := by rw [e13]; exact g_new (by omega) G_0_9_12
  have R_0_13 : σ13.2.2.2.1 o = fun _ => 0 := by rw [e13]; exact (mup_ne (by omega)).trans R_0_12
  have R_1_13 : σ13.2.2.2.1 (o + 1) = fun _ => 0 := by rw [e13]; exact (mup_ne (by omega)).trans R_1_12
  have R_2_13 : σ13.2.2.2.1 (o + 2) = fun _ => 0 := by rw [e13]; exact (mup_ne (by omega)).trans R_2_12
  have R_3_13 : σ13.2.2.2.1 (o + 3) = fun _ => 0 := by rw [e13]; exact (mup_ne (by omega)).trans R_3_12
  have R_4_13 : σ13.2.2.2.1 (o + 4) = fun _ => 0 := by rw [e13]; exact (mup_ne (by omega)).trans R_4_12
  have R_5_13 : σ13.2.2.2.1 (o + 5) = fun _ => 0 := by rw [e13]; exact (mup_ne (by omega)).trans R_5_12
  have R_6_13 : σ13.2.2.2.1 (o + 6) = fun _ => 0 := by rw [e13]; exact (mup_ne (by omega)).trans R_6_12
  have K_7_13 : σ13.2.1[o + 7]? = some (20, 4) := by rw [e13, ← show σ12.2.1.length = o + 7 by omega]; exact k_newS
  have R_7_13 : σ13.2.2.2.1 (o + 7) = fun _ => 0 := by rw [e13, ← show σ12.2.1.length = o + 7 by omega]; exact mup_eq
  clear K_0_12 K_1_12 K_2_12 K_3_12 K_4_12 K_5_12 K_6_12 G_0_2_12 G_0_3_12 G_0_5_12 G_0_6_12 G_0_8_12 G_0_9_12 R_0_12 R_1_12 R_2_12 R_3_12 R_4_12 R_5_12 R_6_12 N_12 T_12 O_12 X_12 e13 σ12
  show RC _ _ _ [some (.ref o)] [.ref (o + 7), .ref o] σ13 _
  refine c_putr K_0_13 ?_
  obtain ⟨σ14, e14⟩ : ∃ x, x = mPr σ13 o 10 (some (o + 7)) := ⟨_, rfl⟩
  rw [← e14]
  have N_14 : σ14.2.1.length = o + 8 := by rw [e14]; exact N_13
  have T_14 : σ14.1 = σ.1 + 414 := by rw [e14]; exact T_13
  have O_14 : rOK σ14 := by rw [e14]; exact rOK_pr O_13 (by omega)
  have X_14 : Ex σ σ14 o := by rw [e14]; exact X_13.pr (by omega)
  have K_0_14 : σ14.2.1[o]? = some (4, 0) := by rw [e14]; exact K_0_13
  have K_1_14 : σ14.2.1[o + 1]? = some (20, 100) := by rw [e14]; exact K_1_13
  have K_2_14 : σ14.2.1[o + 2]? = some (20, 100) := by rw [e14]; exact K_2_13
  have K_3_14 : σ14.2.1[o + 3]? = some (20, 101) := by rw [e14]; exact K_3_13
  have K_4_14 : σ14.2.1[o + 4]? = some (20, 101) := by rw [e14]; exact K_4_13
  have K_5_14 : σ14.2.1[o + 5]? = some (20, 4) := by rw [e14]; exact K_5_13
  have K_6_14 : σ14.2.1[o + 6]? = some (20, 4) := by rw [e14]; exact K_6_13
  have K_7_14 : σ14.2.1[o + 7]? = some (20, 4) := by rw [e14]; exact K_7_13
  have G_0_2_14 : σ14.2.2.1 o 2 = some (o + 1) := by rw [e14]; exact g_prK (by decide) G_0_2_13
  have G_0_3_14 : σ14.2.2.1 o 3 = some (o + 2) := by rw [e14]; exact g_prK (by decide) G_0_3_13
  have G_0_5_14 : σ14.2.2.1 o 5 = some (o + 3) := by rw [e14]; exact g_prK (by decide) G_0_5_13
  have G_0_6_14 : σ14.2.2.1 o 6 = some (o + 4) := by rw [e14]; exact g_prK (by decide) G_0_6_13
  have G_0_8_14 : σ14.2.2.1 o 8 = some (o + 5) := by rw [e14]; exact g_prK (by decide) G_0_8_13
  have G_0_9_14 : σ14.2.2.1 o 9 = some (o + 6) := by rw [e14]; exact g_prK (by decide) G_0_9_13
  have R_0_14 : σ14.2.2.2.1 o = fun _ => 0 := by rw [e14]; exact R_0_13
  have R_1_14 : σ14.2.2.2.1 (o + 1) = fun _ => 0 := by rw [e14]; exact R_1_13
  have R_2_14 : σ14.2.2.2.1 (o + 2) = fun _ => 0 := by rw [e14]; exact R_2_13
  have R_3_14 : σ14.2.2.2.1 (o + 3) = fun _ => 0 := by rw [e14]; exact R_3_13
  have R_4_14 : σ14.2.2.2.1 (o + 4) = fun _ => 0 := by rw [e14]; exact R_4_13
  have R_5_14 : σ14.2.2.2.1 (o + 5) = fun _ => 0 := by rw [e14]; exact R_5_13
  have R_6_14 : σ14.2.2.2.1 (o + 6) = fun _ => 0 := by rw [e14]; exact R_6_13
  have R_7_14 : σ14.2.2.2.1 (o + 7) = fun _ => 0 := by rw [e14]; exact R_7_13
  have G_0_10_14 : σ14.2.2.1 o 10 = some (o + 7) := by rw [e14]; exact g_prS
  clear K_0_13 K_1_13 K_2_13 K_3_13 K_4_13 K_5_13 K_6_13 K_7_13 G_0_2_13 G_0_3_13 G_0_5_13 G_0_6_13 G_0_8_13 G_0_9_13 R_0_13 R_1_13 R_2_13 R_3_13 R_4_13 R_5_13 R_6_13 R_7_13 N_13 T_13 O_13 X_13 e14 σ13
  show RC _ _ _ [some (.ref o)] [] σ14 _
  refine c_aload rfl ?_
  refine c_int ?_
  refine c_newa (t := 0) (z := 4) (by decide) (by decide) (mOut_lt (ltL [o] rfl (List.forall_mem_cons.mpr ⟨by omega, (fun _ h => absurd h List.not_mem_nil)⟩)) (ltS [o] rfl (List.forall_mem_cons.mpr ⟨by omega, (fun _ h => absurd h List.not_mem_nil)⟩))) O_14 ?_
  rw [show ((4 : Int32)).toNatClampNeg = 4 by decide]
  obtain ⟨σ15, e15⟩ : ∃ x, x = mNew σ14 20 4 4 := ⟨_, rfl⟩
  rw [← e15, show σ14.2.1.length = o + 8 by omega]
  have N_15 : σ15.2.1.length = o + 9 := by rw [e15, len_new]; omega
  have T_15 : σ15.1 = σ.1 + 418 := by rw [e15]; show σ14.1 + 4 = _; omega
  have O_15 : rOK σ15 := by rw [e15]; exact rOK_new O_14
  have X_15 : Ex σ σ15 o := by rw [e15]; exact X_14.new (by omega)
  have K_0_15 : σ15.2.1[o]? = some (4, 0) := by rw [e15]; exact k_new K_0_14
  have K_1_15 : σ15.2.1[o + 1]? = some (20, 100) := by rw [e15]; exact k_new K_1_14
  have K_2_15 : σ15.2.1[o + 2]? = some (20, 100) := by rw [e15]; exact k_new K_2_14
  have K_3_15 : σ15.2.1[o + 3]? = some (20, 101) := by rw [e15]; exact k_new K_3_14
  have K_4_15 : σ15.2.1[o + 4]? = some (20, 101) := by rw [e15]; exact k_new K_4_14
  have K_5_15 : σ15.2.1[o + 5]? = some (20, 4) := by rw [e15]; exact k_new K_5_14
  have K_6_15 : σ15.2.1[o + 6]? = some (20, 4) := by rw [e15]; exact k_new K_6_14
  have K_7_15 : σ15.2.1[o + 7]? = some (20, 4) := by rw [e15]; exact k_new K_7_14
  have G_0_2_15 : σ15.2.2.1 o 2 = some (o + 1) := by rw [e15]; exact g_new (by omega) G_0_2_14
  have G_0_3_15 : σ15.2.2.1 o 3 = some (o + 2) := by rw [e15]; exact g_new (by omega) G_0_3_14
  have G_0_5_15 : σ15.2.2.1 o 5 = some (o + 3) := by rw [e15]; exact g_new (by omega) G_0_5_14
  have G_0_6_15 : σ15.2.2.1 o 6 = some (o + 4) := by rw [e15]; exact g_new (by omega) G_0_6_14
  have G_0_8_15 : σ15.2.2.1 o 8 = some (o + 5) := by rw [e15]; exact g_new (by omega) G_0_8_14
  have G_0_9_15 : σ15.2.2.1 o 9 = some (o + 6) := by rw [e15]; exact g_new (by omega) G_0_9_14
  have G_0_10_15 : σ15.2.2.1 o 10 = some (o + 7) := by rw [e15]; exact g_new (by omega) G_0_10_14
  have R_0_15 : σ15.2.2.2.1 o = fun _ => 0 := by rw [e15]; exact (mup_ne (by omega)).trans R_0_14
  have R_1_15 : σ15.2.2.2.1 (o + 1) = fun _ => 0 := by rw [e15]; exact (mup_ne (by omega)).trans R_1_14
  have R_2_15 : σ15.2.2.2.1 (o + 2) = fun _ => 0 := by rw [e15]; exact (mup_ne (by omega)).trans R_2_14
  have R_3_15 : σ15.2.2.2.1 (o + 3) = fun _ => 0 := by rw [e15]; exact (mup_ne (by omega)).trans R_3_14
  have R_4_15 : σ15.2.2.2.1 (o + 4) = fun _ => 0 := by rw [e15]; exact (mup_ne (by omega)).trans R_4_14
  have R_5_15 : σ15.2.2.2.1 (o + 5) = fun _ => 0 := by rw [e15]; exact (mup_ne (by omega)).trans R_5_14
  have R_6_15 : σ15.2.2.2.1 (o + 6) = fun _ => 0 := by rw [e15]; exact (mup_ne (by omega)).trans R_6_14
  have R_7_15 : σ15.2.2.2.1 (o + 7) = fun _ => 0 := by rw [e15]; exact (mup_ne (by omega)).trans R_7_14
  have K_8_15 : σ15.2.1[o + 8]? = some (20, 4) := by rw [e15, ← show σ14.2.1.length = o + 8 by omega]; exact k_newS
  have R_8_15 : σ15.2.2.2.1 (o + 8) = fun _ => 0 := by rw [e15, ← show σ14.2.1.length = o + 8 by omega]; exact mup_eq
  clear K_0_14 K_1_14 K_2_14 K_3_14 K_4_14 K_5_14 K_6_14 K_7_14 G_0_2_14 G_0_3_14 G_0_5_14 G_0_6_14 G_0_8_14 G_0_9_14 G_0_10_14 R_0_14 R_1_14 R_2_14 R_3_14 R_4_14 R_5_14 R_6_14 R_7_14 N_14 T_14 O_14 X_14 e15 σ14
  show RC _ _ _ [some (.ref o)] [.ref (o + 8), .ref o] σ15 _
  refine c_putr K_0_15 ?_
  obtain ⟨σ16, e16⟩ : ∃ x, x = mPr σ15 o 11 (some (o + 8)) := ⟨_, rfl⟩
  rw [← e16]
  have N_16 : σ16.2.1.length = o + 9 := by rw [e16]; exact N_15
  have T_16 : σ16.1 = σ.1 + 418 := by rw [e16]; exact T_15
  have O_16 : rOK σ16 := by rw [e16]; exact rOK_pr O_15 (by omega)
  have X_16 : Ex σ σ16 o := by rw [e16]; exact X_15.pr (by omega)
  have K_0_16 : σ16.2.1[o]? = some (4, 0) := by rw [e16]; exact K_0_15
  have K_1_16 : σ16.2.1[o + 1]? = some (20, 100) := by rw [e16]; exact K_1_15
  have K_2_16 : σ16.2.1[o + 2]? = some (20, 100) := by rw [e16]; exact K_2_15
  have K_3_16 : σ16.2.1[o + 3]? = some (20, 101) := by rw [e16]; exact K_3_15
  have K_4_16 : σ16.2.1[o + 4]? = some (20, 101) := by rw [e16]; exact K_4_15
  have K_5_16 : σ16.2.1[o + 5]? = some (20, 4) := by rw [e16]; exact K_5_15
  have K_6_16 : σ16.2.1[o + 6]? = some (20, 4) := by rw [e16]; exact K_6_15
  have K_7_16 : σ16.2.1[o + 7]? = some (20, 4) := by rw [e16]; exact K_7_15
  have K_8_16 : σ16.2.1[o + 8]? = some (20, 4) := by rw [e16]; exact K_8_15
  have G_0_2_16 : σ16.2.2.1 o 2 = some (o + 1) := by rw [e16]; exact g_prK (by decide) G_0_2_15
  have G_0_3_16 : σ16.2.2.1 o 3 = some (o + 2) := by rw [e16]; exact g_prK (by decide) G_0_3_15
  have G_0_5_16 : σ16.2.2.1 o 5 = some (o + 3) := by rw [e16]; exact g_prK (by decide) G_0_5_15
  have G_0_6_16 : σ16.2.2.1 o 6 = some (o + 4) := by rw [e16]; exact g_prK (by decide) G_0_6_15
  have G_0_8_16 : σ16.2.2.1 o 8 = some (o + 5) := by rw [e16]; exact g_prK (by decide) G_0_8_15
  have G_0_9_16 : σ16.2.2.1 o 9 = some (o + 6) := by rw [e16]; exact g_prK (by decide) G_0_9_15
  have G_0_10_16 : σ16.2.2.1 o 10 = some (o + 7) := by rw [e16]; exact g_prK (by decide) G_0_10_15
  have R_0_16 : σ16.2.2.2.1 o = fun _ => 0 := by rw [e16]; exact R_0_15
  have R_1_16 : σ16.2.2.2.1 (o + 1) = fun _ => 0 := by rw [e16]; exact R_1_15
  have R_2_16 : σ16.2.2.2.1 (o + 2) = fun _ => 0 := by rw [e16]; exact R_2_15
  have R_3_16 : σ16.2.2.2.1 (o + 3) = fun _ => 0 := by rw [e16]; exact R_3_15
  have R_4_16 : σ16.2.2.2.1 (o + 4) = fun _ => 0 := by rw [e16]; exact R_4_15
  have R_5_16 : σ16.2.2.2.1 (o + 5) = fun _ => 0 := by rw [e16]; exact R_5_15
  have R_6_16 : σ16.2.2.2.1 (o + 6) = fun _ => 0 := by rw [e16]; exact R_6_15
  have R_7_16 : σ16.2.2.2.1 (o + 7) = fun _ => 0 := by rw [e16]; exact R_7_15
  have R_8_16 : σ16.2.2.2.1 (o + 8) = fun _ => 0 := by rw [e16]; exact R_8_15
  have G_0_11_16 : σ16.2.2.1 o 11 = some (o + 8) := by rw [e16]; exact g_prS
  clear K_0_15 K_1_15 K_2_15 K_3_15 K_4_15 K_5_15 K_6_15 K_7_15 K_8_15 G_0_2_15 G_0_3_15 G_0_5_15 G_0_6_15 G_0_8_15 G_0_9_15 G_0_10_15 R_0_15 R_1_15 R_2_15 R_3_15 R_4_15 R_5_15 R_6_15 R_7_15 R_8_15 N_15 T_15 O_15 X_15 e16 σ15
  show RC _ _ _ [some (.ref o)] [] σ16 _
  refine c_aload rfl ?_
  refine c_int ?_
  refine c_newa (t := 0) (z := 12) (by decide) (by decide) (mOut_lt (ltL [o] rfl (List.forall_mem_cons.mpr ⟨by omega, (fun _ h => absurd h List.not_mem_nil)⟩)) (ltS [o] rfl (List.forall_mem_cons.mpr ⟨by omega, (fun _ h => absurd h List.not_mem_nil)⟩))) O_16 ?_
  rw [show ((12 : Int32)).toNatClampNeg = 12 by decide]
  obtain ⟨σ17, e17⟩ : ∃ x, x = mNew σ16 20 12 12 := ⟨_, rfl⟩
  rw [← e17, show σ16.2.1.length = o + 9 by omega]
  have N_17 : σ17.2.1.length = o + 10 := by rw [e17, len_new]; omega
  have T_17 : σ17.1 = σ.1 + 430 := by rw [e17]; show σ16.1 + 12 = _; omega
  have O_17 : rOK σ17 := by rw [e17]; exact rOK_new O_16
  have X_17 : Ex σ σ17 o := by rw [e17]; exact X_16.new (by omega)
  have K_0_17 : σ17.2.1[o]? = some (4, 0) := by rw [e17]; exact k_new K_0_16
  have K_1_17 : σ17.2.1[o + 1]? = some (20, 100) := by rw [e17]; exact k_new K_1_16
  have K_2_17 : σ17.2.1[o + 2]? = some (20, 100) := by rw [e17]; exact k_new K_2_16
  have K_3_17 : σ17.2.1[o + 3]? = some (20, 101) := by rw [e17]; exact k_new K_3_16
  have K_4_17 : σ17.2.1[o + 4]? = some (20, 101) := by rw [e17]; exact k_new K_4_16
  have K_5_17 : σ17.2.1[o + 5]? = some (20, 4) := by rw [e17]; exact k_new K_5_16
  have K_6_17 : σ17.2.1[o + 6]? = some (20, 4) := by rw [e17]; exact k_new K_6_16
  have K_7_17 : σ17.2.1[o + 7]? = some (20, 4) := by rw [e17]; exact k_new K_7_16
  have K_8_17 : σ17.2.1[o + 8]? = some (20, 4) := by rw [e17]; exact k_new K_8_16
  have G_0_2_17 : σ17.2.2.1 o 2 = some (o + 1) := by rw [e17]; exact g_new (by omega) G_0_2_16
  have G_0_3_17 : σ17.2.2.1 o 3 = some (o + 2) := by rw [e17]; exact g_new (by omega) G_0_3_16
  have G_0_5_17 : σ17.2.2.1 o 5 = some (o + 3) := by rw [e17]; exact g_new (by omega) G_0_5_16
  have G_0_6_17 : σ17.2.2.1 o 6 = some (o + 4) := by rw [e17]; exact g_new (by omega) G_0_6_16
  have G_0_8_17 : σ17.2.2.1 o 8 = some (o + 5) := by rw [e17]; exact g_new (by omega) G_0_8_16
  have G_0_9_17 : σ17.2.2.1 o 9 = some (o + 6) := by rw [e17]; exact g_new (by omega) G_0_9_16
  have G_0_10_17 : σ17.2.2.1 o 10 = some (o + 7) := by rw [e17]; exact g_new (by omega) G_0_10_16
  have G_0_11_17 : σ17.2.2.1 o 11 = some (o + 8) := by rw [e17]; exact g_new (by omega) G_0_11_16
  have R_0_17 : σ17.2.2.2.1 o = fun _ => 0 := by rw [e17]; exact (mup_ne (by omega)).trans R_0_16
  have R_1_17 : σ17.2.2.2.1 (o + 1) = fun _ => 0 := by rw [e17]; exact (mup_ne (by omega)).trans R_1_16
  have R_2_17 : σ17.2.2.2.1 (o + 2) = fun _ => 0 := by rw [e17]; exact (mup_ne (by omega)).trans R_2_16
  have R_3_17 : σ17.2.2.2.1 (o + 3) = fun _ => 0 := by rw [e17]; exact (mup_ne (by omega)).trans R_3_16
  have R_4_17 : σ17.2.2.2.1 (o + 4) = fun _ => 0 := by rw [e17]; exact (mup_ne (by omega)).trans R_4_16
  have R_5_17 : σ17.2.2.2.1 (o + 5) = fun _ => 0 := by rw [e17]; exact (mup_ne (by omega)).trans R_5_16
  have R_6_17 : σ17.2.2.2.1 (o + 6) = fun _ => 0 := by rw [e17]; exact (mup_ne (by omega)).trans R_6_16
  have R_7_17 : σ17.2.2.2.1 (o + 7) = fun _ => 0 := by rw [e17]; exact (mup_ne (by omega)).trans R_7_16
  have R_8_17 : σ17.2.2.2.1 (o + 8) = fun _ => 0 := by rw [e17]; exact (mup_ne (by omega)).trans R_8_16
  have K_9_17 : σ17.2.1[o + 9]? = some (20, 12) := by rw [e17, ← show σ16.2.1.length = o + 9 by omega]; exact k_newS
  have R_9_17 : σ17.2.2.2.1 (o + 9) = fun _ => 0 := by rw [e17, ← show σ16.2.1.length = o + 9 by omega]; exact mup_eq
  clear K_0_16 K_1_16 K_2_16 K_3_16 K_4_16 K_5_16 K_6_16 K_7_16 K_8_16 G_0_2_16 G_0_3_16 G_0_5_16 G_0_6_16 G_0_8_16 G_0_9_16 G_0_10_16 G_0_11_16 R_0_16 R_1_16 R_2_16 R_3_16 R_4_16 R_5_16 R_6_16 R_7_16 R_8_16 N_16 T_16 O_16 X_16 e17 σ16
  show RC _ _ _ [some (.ref o)] [.ref (o + 9), .ref o] σ17 _
  refine c_putr K_0_17 ?_
  obtain ⟨σ18, e18⟩ : ∃ x, x = mPr σ17 o 13 (some (o + 9)) := ⟨_, rfl⟩
  rw [← e18]
  have N_18 : σ18.2.1.length = o + 10 := by rw [e18]; exact N_17
  have T_18 : σ18.1 = σ.1 + 430 := by rw [e18]; exact T_17
  have O_18 : rOK σ18 := by rw [e18]; exact rOK_pr O_17 (by omega)
  have X_18 : Ex σ σ18 o := by rw [e18]; exact X_17.pr (by omega)
  have K_0_18 : σ18.2.1[o]? = some (4, 0) := by rw [e18]; exact K_0_17
  have K_1_18 : σ18.2.1[o + 1]? = some (20, 100) := by rw [e18]; exact K_1_17
  have K_2_18 : σ18.2.1[o + 2]? = some (20, 100) := by rw [e18]; exact K_2_17
  have K_3_18 : σ18.2.1[o + 3]? = some (20, 101) := by rw [e18]; exact K_3_17
  have K_4_18 : σ18.2.1[o + 4]? = some (20, 101) := by rw [e18]; exact K_4_17
  have K_5_18 : σ18.2.1[o + 5]? = some (20, 4) := by rw [e18]; exact K_5_17
  have K_6_18 : σ18.2.1[o + 6]? = some (20, 4) := by rw [e18]; exact K_6_17
  have K_7_18 : σ18.2.1[o + 7]? = some (20, 4) := by rw [e18]; exact K_7_17
  have K_8_18 : σ18.2.1[o + 8]? = some (20, 4) := by rw [e18]; exact K_8_17
  have K_9_18 : σ18.2.1[o + 9]? = some (20, 12) := by rw [e18]; exact K_9_17
  have G_0_2_18 : σ18.2.2.1 o 2 = some (o + 1) := by rw [e18]; exact g_prK (by decide) G_0_2_17
  have G_0_3_18 : σ18.2.2.1 o 3 = some (o + 2) := by rw [e18]; exact g_prK (by decide) G_0_3_17
  have G_0_5_18 : σ18.2.2.1 o 5 = some (o + 3) := by rw [e18]; exact g_prK (by decide) G_0_5_17
  have G_0_6_18 : σ18.2.2.1 o 6 = some (o + 4) := by rw [e18]; exact g_prK (by decide) G_0_6_17
  have G_0_8_18 : σ18.2.2.1 o 8 = some (o + 5) := by rw [e18]; exact g_prK (by decide) G_0_8_17
  have G_0_9_18 : σ18.2.2.1 o 9 = some (o + 6) := by rw [e18]; exact g_prK (by decide) G_0_9_17
  have G_0_10_18 : σ18.2.2.1 o 10 = some (o + 7) := by rw [e18]; exact g_prK (by decide) G_0_10_17
  have G_0_11_18 : σ18.2.2.1 o 11 = some (o + 8) := by rw [e18]; exact g_prK (by decide) G_0_11_17
  have R_0_18 : σ18.2.2.2.1 o = fun _ => 0 := by rw [e18]; exact R_0_17
  have R_1_18 : σ18.2.2.2.1 (o + 1) = fun _ => 0 := by rw [e18]; exact R_1_17
  have R_2_18 : σ18.2.2.2.1 (o + 2) = fun _ => 0 := by rw [e18]; exact R_2_17
  have R_3_18 : σ18.2.2.2.1 (o + 3) = fun _ => 0 := by rw [e18]; exact R_3_17
  have R_4_18 : σ18.2.2.2.1 (o + 4) = fun _ => 0 := by rw [e18]; exact R_4_17
  have R_5_18 : σ18.2.2.2.1 (o + 5) = fun _ => 0 := by rw [e18]; exact R_5_17
  have R_6_18 : σ18.2.2.2.1 (o + 6) = fun _ => 0 := by rw [e18]; exact R_6_17
  have R_7_18 : σ18.2.2.2.1 (o + 7) = fun _ => 0 := by rw [e18]; exact R_7_17
  have R_8_18 : σ18.2.2.2.1 (o + 8) = fun _ => 0 := by rw [e18]; exact R_8_17
  have R_9_18 : σ18.2.2.2.1 (o + 9) = fun _ => 0 := by rw [e18]; exact R_9_17
  have G_0_13_18 : σ18.2.2.1 o 13 = some (o + 9) := by rw [e18]; exact g_prS
  clear K_0_17 K_1_17 K_2_17 K_3_17 K_4_17 K_5_17 K_6_17 K_7_17 K_8_17 K_9_17 G_0_2_17 G_0_3_17 G_0_5_17 G_0_6_17 G_0_8_17 G_0_9_17 G_0_10_17 G_0_11_17 R_0_17 R_1_17 R_2_17 R_3_17 R_4_17 R_5_17 R_6_17 R_7_17 R_8_17 R_9_17 N_17 T_17 O_17 X_17 e18 σ17
  show RC _ _ _ [some (.ref o)] [] σ18 _
  refine c_aload rfl ?_
  refine c_int ?_
  refine c_newa (t := 0) (z := 12) (by decide) (by decide) (mOut_lt (ltL [o] rfl (List.forall_mem_cons.mpr ⟨by omega, (fun _ h => absurd h List.not_mem_nil)⟩)) (ltS [o] rfl (List.forall_mem_cons.mpr ⟨by omega, (fun _ h => absurd h List.not_mem_nil)⟩))) O_18 ?_
  rw [show ((12 : Int32)).toNatClampNeg = 12 by decide]
  obtain ⟨σ19, e19⟩ : ∃ x, x = mNew σ18 20 12 12 := ⟨_, rfl⟩
  rw [← e19, show σ18.2.1.length = o + 10 by omega]
  have N_19 : σ19.2.1.length = o + 11 := by rw [e19, len_new]; omega
  have T_19 : σ19.1 = σ.1 + 442 := by rw [e19]; show σ18.1 + 12 = _; omega
  have O_19 : rOK σ19 := by rw [e19]; exact rOK_new O_18
  have X_19 : Ex σ σ19 o := by rw [e19]; exact X_18.new (by omega)
  have K_0_19 : σ19.2.1[o]? = some (4, 0) := by rw [e19]; exact k_new K_0_18
  have K_1_19 : σ19.2.1[o + 1]? = some (20, 100) := by rw [e19]; exact k_new K_1_18
  have K_2_19 : σ19.2.1[o + 2]? = some (20, 100) := by rw [e19]; exact k_new K_2_18
  have K_3_19 : σ19.2.1[o + 3]? = some (20, 101) := by rw [e19]; exact k_new K_3_18
  have K_4_19 : σ19.2.1[o + 4]? = some (20, 101) := by rw [e19]; exact k_new K_4_18
  have K_5_19 : σ19.2.1[o + 5]? = some (20, 4) := by rw [e19]; exact k_new K_5_18
  have K_6_19 : σ19.2.1[o + 6]? = some (20, 4) := by rw [e19]; exact k_new K_6_18
  have K_7_19 : σ19.2.1[o + 7]? = some (20, 4) := by rw [e19]; exact k_new K_7_18
  have K_8_19 : σ19.2.1[o + 8]? = some (20, 4) := by rw [e19]; exact k_new K_8_18
  have K_9_19 : σ19.2.1[o + 9]? = some (20, 12) := by rw [e19]; exact k_new K_9_18
  have G_0_2_19 : σ19.2.2.1 o 2 = some (o + 1) := by rw [e19]; exact g_new (by omega) G_0_2_18
  have G_0_3_19 : σ19.2.2.1 o 3 = some (o + 2) := by rw [e19]; exact g_new (by omega) G_0_3_18
  have G_0_5_19 : σ19.2.2.1 o 5 = some (o + 3) := by rw [e19]; exact g_new (by omega) G_0_5_18
  have G_0_6_19 : σ19.2.2.1 o 6 = some (o + 4) := by rw [e19]; exact g_new (by omega) G_0_6_18
  have G_0_8_19 : σ19.2.2.1 o 8 = some (o + 5) := by rw [e19]; exact g_new (by omega) G_0_8_18
  have G_0_9_19 : σ19.2.2.1 o 9 = some (o + 6) := by rw [e19]; exact g_new (by omega) G_0_9_18
  have G_0_10_19 : σ19.2.2.1 o 10 = some (o + 7) := by rw [e19]; exact g_new (by omega) G_0_10_18
  have G_0_11_19 : σ19.2.2.1 o 11 = some (o + 8) := by rw [e19]; exact g_new (by omega) G_0_11_18
  have G_0_13_19 : σ19.2.2.1 o 13 = some (o + 9) := by rw [e19]; exact g_new (by omega) G_0_13_18
  have R_0_19 : σ19.2.2.2.1 o = fun _ => 0 := by rw [e19]; exact (mup_ne (by omega)).trans R_0_18
  have R_1_19 : σ19.2.2.2.1 (o + 1) = fun _ => 0 := by rw [e19]; exact (mup_ne (by omega)).trans R_1_18
  have R_2_19 : σ19.2.2.2.1 (o + 2) = fun _ => 0 := by rw [e19]; exact (mup_ne (by omega)).trans R_2_18
  have R_3_19 : σ19.2.2.2.1 (o + 3) = fun _ => 0 := by rw [e19]; exact (mup_ne (by omega)).trans R_3_18
  have R_4_19 : σ19.2.2.2.1 (o + 4) = fun _ => 0 := by rw [e19]; exact (mup_ne (by omega)).trans R_4_18
  have R_5_19 : σ19.2.2.2.1 (o + 5) = fun _ => 0 := by rw [e19]; exact (mup_ne (by omega)).trans R_5_18
  have R_6_19 : σ19.2.2.2.1 (o + 6) = fun _ => 0 := by rw [e19]; exact (mup_ne (by omega)).trans R_6_18
  have R_7_19 : σ19.2.2.2.1 (o + 7) = fun _ => 0 := by rw [e19]; exact (mup_ne (by omega)).trans R_7_18
  have R_8_19 : σ19.2.2.2.1 (o + 8) = fun _ => 0 := by rw [e19]; exact (mup_ne (by omega)).trans R_8_18
  have R_9_19 : σ19.2.2.2.1 (o + 9) = fun _ => 0 := by rw [e19]; exact (mup_ne (by omega)).trans R_9_18
  have K_10_19 : σ19.2.1[o + 10]? = some (20, 12) := by rw [e19, ← show σ18.2.1.length = o + 10 by omega]; exact k_newS
  have R_10_19 : σ19.2.2.2.1 (o + 10) = fun _ => 0 := by rw [e19, ← show σ18.2.1.length = o + 10 by omega]; exact mup_eq
  clear K_0_18 K_1_18 K_2_18 K_3_18 K_4_18 K_5_18 K_6_18 K_7_18 K_8_18 K_9_18 G_0_2_18 G_0_3_18 G_0_5_18 G_0_6_18 G_0_8_18 G_0_9_18 G_0_10_18 G_0_11_18 G_0_13_18 R_0_18 R_1_18 R_2_18 R_3_18 R_4_18 R_5_18 R_6_18 R_7_18 R_8_18 R_9_18 N_18 T_18 O_18 X_18 e19 σ18
  show RC _ _ _ [some (.ref o)] [.ref (o + 10), .ref o] σ19 _
  refine c_putr K_0_19 ?_
  obtain ⟨σ20, e20⟩ : ∃ x, x = mPr σ19 o 14 (some (o + 10)) := ⟨_, rfl⟩
  rw [← e20]
  have N_20 : σ20.2.1.length = o + 11 := by rw [e20]; exact N_19
  have T_20 : σ20.1 = σ.1 + 442 := by rw [e20]; exact T_19
  have O_20 : rOK σ20 := by rw [e20]; exact rOK_pr O_19 (by omega)
  have X_20 : Ex σ σ20 o := by rw [e20]; exact X_19.pr (by omega)
  have K_0_20 : σ20.2.1[o]? = some (4, 0) := by rw [e20]; exact K_0_19
  have K_1_20 : σ20.2.1[o + 1]? = some (20, 100) := by rw [e20]; exact K_1_19
  have K_2_20 : σ20.2.1[o + 2]? = some (20, 100) := by rw [e20]; exact K_2_19
  have K_3_20 : σ20.2.1[o + 3]? = some (20, 101) := by rw [e20]; exact K_3_19
  have K_4_20 : σ20.2.1[o + 4]? = some (20, 101) := by rw [e20]; exact K_4_19
  have K_5_20 : σ20.2.1[o + 5]? = some (20, 4) := by rw [e20]; exact K_5_19
  have K_6_20 : σ20.2.1[o + 6]? = some (20, 4) := by rw [e20]; exact K_6_19
  have K_7_20 : σ20.2.1[o + 7]? = some (20, 4) := by rw [e20]; exact K_7_19
  have K_8_20 : σ20.2.1[o + 8]? = some (20, 4) := by rw [e20]; exact K_8_19
  have K_9_20 : σ20.2.1[o + 9]? = some (20, 12) := by rw [e20]; exact K_9_19
  have K_10_20 : σ20.2.1[o + 10]? = some (20, 12) := by rw [e20]; exact K_10_19
  have G_0_2_20 : σ20.2.2.1 o 2 = some (o + 1) := by rw [e20]; exact g_prK (by decide) G_0_2_19
  have G_0_3_20 : σ20.2.2.1 o 3 = some (o + 2) := by rw [e20]; exact g_prK (by decide) G_0_3_19
  have G_0_5_20 : σ20.2.2.1 o 5 = some (o + 3) := by rw [e20]; exact g_prK (by decide) G_0_5_19
  have G_0_6_20 : σ20.2.2.1 o 6 = some (o + 4) := by rw [e20]; exact g_prK (by decide) G_0_6_19
  have G_0_8_20 : σ20.2.2.1 o 8 = some (o + 5) := by rw [e20]; exact g_prK (by decide) G_0_8_19
  have G_0_9_20 : σ20.2.2.1 o 9 = some (o + 6) := by rw [e20]; exact g_prK (by decide) G_0_9_19
  have G_0_10_20 : σ20.2.2.1 o 10 = some (o + 7) := by rw [e20]; exact g_prK (by decide) G_0_10_19
  have G_0_11_20 : σ20.2.2.1 o 11 = some (o + 8) := by rw [e20]; exact g_prK (by decide) G_0_11_19
  have G_0_13_20 : σ20.2.2.1 o 13 = some (o + 9) := by rw [e20]; exact g_prK (by decide) G_0_13_19
  have R_0_20 : σ20.2.2.2.1 o = fun _ => 0 := by rw [e20]; exact R_0_19
  have R_1_20 : σ20.2.2.2.1 (o + 1) = fun _ => 0 := by rw [e20]; exact R_1_19
  have R_2_20 : σ20.2.2.2.1 (o + 2) = fun _ => 0 := by rw [e20]; exact R_2_19
  have R_3_20 : σ20.2.2.2.1 (o + 3) = fun _ => 0 := by rw [e20]; exact R_3_19
  have R_4_20 : σ20.2.2.2.1 (o + 4) = fun _ => 0 := by rw [e20]; exact R_4_19
  have R_5_20 : σ20.2.2.2.1 (o + 5) = fun _ => 0 := by rw [e20]; exact R_5_19
  have R_6_20 : σ20.2.2.2.1 (o + 6) = fun _ => 0 := by rw [e20]; exact R_6_19
  have R_7_20 : σ20.2.2.2.1 (o + 7) = fun _ => 0 := by rw [e20]; exact R_7_19
  have R_8_20 : σ20.2.2.2.1 (o + 8) = fun _ => 0 := by rw [e20]; exact R_8_19
  have R_9_20 : σ20.2.2.2.1 (o + 9) = fun _ => 0 := by rw [e20]; exact R_9_19
  have R_10_20 : σ20.2.2.2.1 (o + 10) = fun _ => 0 := by rw [e20]; exact R_10_19
  have G_0_14_20 : σ20.2.2.1 o 14 = some (o + 10) := by rw [e20]; exact g_prS
  clear K_0_19 K_1_19 K_2_19 K_3_19 K_4_19 K_5_19 K_6_19 K_7_19 K_8_19 K_9_19 K_10_19 G_0_2_19 G_0_3_19 G_0_5_19 G_0_6_19 G_0_8_19 G_0_9_19 G_0_10_19 G_0_11_19 G_0_13_19 R_0_19 R_1_19 R_2_19 R_3_19 R_4_19 R_5_19 R_6_19 R_7_19 R_8_19 R_9_19 R_10_19 N_19 T_19 O_19 X_19 e20 σ19
  show RC _ _ _ [some (.ref o)] [] σ20 _
  refine c_aload rfl ?_
  refine c_int ?_
  refine c_newa (t := 0) (z := 12) (by decide) (by decide) (mOut_lt (ltL [o] rfl (List.forall_mem_cons.mpr ⟨by omega, (fun _ h => absurd h List.not_mem_nil)⟩)) (ltS [o] rfl (List.forall_mem_cons.mpr ⟨by omega, (fun _ h => absurd h List.not_mem_nil)⟩))) O_20 ?_
  rw [show ((12 : Int32)).toNatClampNeg = 12 by decide]
  obtain ⟨σ21, e21⟩ : ∃ x, x = mNew σ20 20 12 12 := ⟨_, rfl⟩
  rw [← e21, show σ20.2.1.length = o + 11 by omega]
  have N_21 : σ21.2.1.length = o + 12 := by rw [e21, len_new]; omega
  have T_21 : σ21.1 = σ.1 + 454 := by rw [e21]; show σ20.1 + 12 = _; omega
  have O_21 : rOK σ21 := by rw [e21]; exact rOK_new O_20
  have X_21 : Ex σ σ21 o := by rw [e21]; exact X_20.new (by omega)
  have K_0_21 : σ21.2.1[o]? = some (4, 0) := by rw [e21]; exact k_new K_0_20
  have K_1_21 : σ21.2.1[o + 1]? = some (20, 100) := by rw [e21]; exact k_new K_1_20
  have K_2_21 : σ21.2.1[o + 2]? = some (20, 100) := by rw [e21]; exact k_new K_2_20
  have K_3_21 : σ21.2.1[o + 3]? = some (20, 101) := by rw [e21]; exact k_new K_3_20
  have K_4_21 : σ21.2.1[o + 4]? = some (20, 101) := by rw [e21]; exact k_new K_4_20
  have K_5_21 : σ21.2.1[o + 5]? = some (20, 4) := by rw [e21]; exact k_new K_5_20
  have K_6_21 : σ21.2.1[o + 6]? = some (20, 4) := by rw [e21]; exact k_new K_6_20
  have K_7_21 : σ21.2.1[o + 7]? = some (20, 4) := by rw [e21]; exact k_new K_7_20
  have K_8_21 : σ21.2.1[o + 8]? = some (20, 4) := by rw [e21]; exact k_new K_8_20
  have K_9_21 : σ21.2.1[o + 9]? = some (20, 12) := by rw [e21]; exact k_new K_9_20
  have K_10_21 : σ21.2.1[o + 10]? = some (20, 12) := by rw [e21]; exact k_new K_10_20
  have G_0_2_21 : σ21.2.2.1 o 2 = some (o + 1) := by rw [e21]; exact g_new (by omega) G_0_2_20
  have G_0_3_21 : σ21.2.2.1 o 3 = some (o + 2) := by rw [e21]; exact g_new (by omega) G_0_3_20
  have G_0_5_21 : σ21.2.2.1 o 5 = some (o + 3) := by rw [e21]; exact g_new (by omega) G_0_5_20
  have G_0_6_21 : σ21.2.2.1 o 6 = some (o + 4) := by rw [e21]; exact g_new (by omega) G_0_6_20
  have G_0_8_21 : σ21.2.2.1 o 8 = some (o + 5) := by rw [e21]; exact g_new (by omega) G_0_8_20
  have G_0_9_21 : σ21.2.2.1 o 9 = some (o + 6) := by rw [e21]; exact g_new (by omega) G_0_9_20
  have G_0_10_21 : σ21.2.2.1 o 10 = some (o + 7) := by rw [e21]; exact g_new (by omega) G_0_10_20
  have G_0_11_21 : σ21.2.2.1 o 11 = some (o + 8) := by rw [e21]; exact g_new (by omega) G_0_11_20
  have G_0_13_21 : σ21.2.2.1 o 13 = some (o + 9) := by rw [e21]; exact g_new (by omega) G_0_13_20
  have G_0_14_21 : σ21.2.2.1 o 14 = some (o + 10) := by rw [e21]; exact g_new (by omega) G_0_14_20
  have R_0_21 : σ21.2.2.2.1 o = fun _ => 0 := by rw [e21]; exact (mup_ne (by omega)).trans R_0_20
  have R_1_21 : σ21.2.2.2.1 (o + 1) = fun _ => 0 := by rw [e21]; exact (mup_ne (by omega)).trans R_1_20
  have R_2_21 : σ21.2.2.2.1 (o + 2) = fun _ => 0 := by rw [e21]; exact (mup_ne (by omega)).trans R_2_20
  have R_3_21 : σ21.2.2.2.1 (o + 3) = fun _ => 0 := by rw [e21]; exact (mup_ne (by omega)).trans R_3_20
  have R_4_21 : σ21.2.2.2.1 (o + 4) = fun _ => 0 := by rw [e21]; exact (mup_ne (by omega)).trans R_4_20
  have R_5_21 : σ21.2.2.2.1 (o + 5) = fun _ => 0 := by rw [e21]; exact (mup_ne (by omega)).trans R_5_20
  have R_6_21 : σ21.2.2.2.1 (o + 6) = fun _ => 0 := by rw [e21]; exact (mup_ne (by omega)).trans R_6_20
  have R_7_21 : σ21.2.2.2.1 (o + 7) = fun _ => 0 := by rw [e21]; exact (mup_ne (by omega)).trans R_7_20
  have R_8_21 : σ21.2.2.2.1 (o + 8) = fun _ => 0 := by rw [e21]; exact (mup_ne (by omega)).trans R_8_20
  have R_9_21 : σ21.2.2.2.1 (o + 9) = fun _ => 0 := by rw [e21]; exact (mup_ne (by omega)).trans R_9_20
  have R_10_21 : σ21.2.2.2.1 (o + 10) = fun _ => 0 := by rw [e21]; exact (mup_ne (by omega)).trans R_10_20
  have K_11_21 : σ21.2.1[o + 11]? = some (20, 12) := by rw [e21, ← show σ20.2.1.length = o + 11 by omega]; exact k_newS
  have R_11_21 : σ21.2.2.2.1 (o + 11) = fun _ => 0 := by rw [e21, ← show σ20.2.1.length = o + 11 by omega]; exact mup_eq
  clear K_0_20 K_1_20 K_2_20 K_3_20 K_4_20 K_5_20 K_6_20 K_7_20 K_8_20 K_9_20 K_10_20 G_0_2_20 G_0_3_20 G_0_5_20 G_0_6_20 G_0_8_20 G_0_9_20 G_0_10_20 G_0_11_20 G_0_13_20 G_0_14_20 R_0_20 R_1_20 R_2_20 R_3_20 R_4_20 R_5_20 R_6_20 R_7_20 R_8_20 R_9_20 R_10_20 N_20 T_20 O_20 X_20 e21 σ20
  show RC _ _ _ [some (.ref o)] [.ref (o + 11), .ref o] σ21 _
  refine c_putr K_0_21 ?_
  obtain ⟨σ22, e22⟩ : ∃ x, x = mPr σ21 o 15 (some (o + 11)) := ⟨_, rfl⟩
  rw [← e22]
  have N_22 : σ22.2.1.length = o + 12 := by rw [e22]; exact N_21
  have T_22 : σ22.1 = σ.1 + 454 := by rw [e22]; exact T_21
  have O_22 : rOK σ22 := by rw [e22]; exact rOK_pr O_21 (by omega)
  have X_22 : Ex σ σ22 o := by rw [e22]; exact X_21.pr (by omega)
  have K_0_22 : σ22.2.1[o]? = some (4, 0) := by rw [e22]; exact K_0_21
  have K_1_22 : σ22.2.1[o + 1]? = some (20, 100) := by rw [e22]; exact K_1_21
  have K_2_22 : σ22.2.1[o + 2]? = some (20, 100) := by rw [e22]; exact K_2_21
  have K_3_22 : σ22.2.1[o + 3]? = some (20, 101) := by rw [e22]; exact K_3_21
  have K_4_22 : σ22.2.1[o + 4]? = some (20, 101) := by rw [e22]; exact K_4_21
  have K_5_22 : σ22.2.1[o + 5]? = some (20, 4) := by rw [e22]; exact K_5_21
  have K_6_22 : σ22.2.1[o + 6]? = some (20, 4) := by rw [e22]; exact K_6_21
  have K_7_22 : σ22.2.1[o + 7]? = some (20, 4) := by rw [e22]; exact K_7_21
  have K_8_22 : σ22.2.1[o + 8]? = some (20, 4) := by rw [e22]; exact K_8_21
  have K_9_22 : σ22.2.1[o + 9]? = some (20, 12) := by rw [e22]; exact K_9_21
  have K_10_22 : σ22.2.1[o + 10]? = some (20, 12) := by rw [e22]; exact K_10_21
  have K_11_22 : σ22.2.1[o + 11]? = some (20, 12) := by rw [e22]; exact K_11_21
  have G_0_2_22 : σ22.2.2.1 o 2 = some (o + 1) := by rw [e22]; exact g_prK (by decide) G_0_2_21
  have G_0_3_22 : σ22.2.2.1 o 3 = some (o + 2) := by rw [e22]; exact g_prK (by decide) G_0_3_21
  have G_0_5_22 : σ22.2.2.1 o 5 = some (o + 3) := by rw [e22]; exact g_prK (by decide) G_0_5_21
  have G_0_6_22 : σ22.2.2.1 o 6 = some (o + 4) := by rw [e22]; exact g_prK (by decide) G_0_6_21
  have G_0_8_22 : σ22.2.2.1 o 8 = some (o + 5) := by rw [e22]; exact g_prK (by decide) G_0_8_21
  have G_0_9_22 : σ22.2.2.1 o 9 = some (o + 6) := by rw [e22]; exact g_prK (by decide) G_0_9_21
  have G_0_10_22 : σ22.2.2.1 o 10 = some (o + 7) := by rw [e22]; exact g_prK (by decide) G_0_10_21
  have G_0_11_22 : σ22.2.2.1 o 11 = some (o + 8) := by rw [e22]; exact g_prK (by decide) G_0_11_21
  have G_0_13_22 : σ22.2.2.1 o 13 = some (o + 9) := by rw [e22]; exact g_prK (by decide) G_0_13_21
  have G_0_14_22 : σ22.2.2.1 o 14 = some (o + 10) := by rw [e22]; exact g_prK (by decide) G_0_14_21
  have R_0_22 : σ22.2.2.2.1 o = fun _ => 0 := by rw [e22]; exact R_0_21
  have R_1_22 : σ22.2.2.2.1 (o + 1) = fun _ => 0 := by rw [e22]; exact R_1_21
  have R_2_22 : σ22.2.2.2.1 (o + 2) = fun _ => 0 := by rw [e22]; exact R_2_21
  have R_3_22 : σ22.2.2.2.1 (o + 3) = fun _ => 0 := by rw [e22]; exact R_3_21
  have R_4_22 : σ22.2.2.2.1 (o + 4) = fun _ => 0 := by rw [e22]; exact R_4_21
  have R_5_22 : σ22.2.2.2.1 (o + 5) = fun _ => 0 := by rw [e22]; exact R_5_21
  have R_6_22 : σ22.2.2.2.1 (o + 6) = fun _ => 0 := by rw [e22]; exact R_6_21
  have R_7_22 : σ22.2.2.2.1 (o + 7) = fun _ => 0 := by rw [e22]; exact R_7_21
  have R_8_22 : σ22.2.2.2.1 (o + 8) = fun _ => 0 := by rw [e22]; exact R_8_21
  have R_9_22 : σ22.2.2.2.1 (o + 9) = fun _ => 0 := by rw [e22]; exact R_9_21
  have R_10_22 : σ22.2.2.2.1 (o + 10) = fun _ => 0 := by rw [e22]; exact R_10_21
  have R_11_22 : σ22.2.2.2.1 (o + 11) = fun _ => 0 := by rw [e22]; exact R_11_21
  have G_0_15_22 : σ22.2.2.1 o 15 = some (o + 11) := by rw [e22]; exact g_prS
  clear K_0_21 K_1_21 K_2_21 K_3_21 K_4_21 K_5_21 K_6_21 K_7_21 K_8_21 K_9_21 K_10_21 K_11_21 G_0_2_21 G_0_3_21 G_0_5_21 G_0_6_21 G_0_8_21 G_0_9_21 G_0_10_21 G_0_11_21 G_0_13_21 G_0_14_21 R_0_21 R_1_21 R_2_21 R_3_21 R_4_21 R_5_21 R_6_21 R_7_21 R_8_21 R_9_21 R_10_21 R_11_21 N_21 T_21 O_21 X_21 e22 σ21
  show RC _ _ _ [some (.ref o)] [] σ22 _
  refine c_aload rfl ?_
  refine c_int ?_
  refine c_newa (t := 0) (z := 12) (by decide) (by decide) (mOut_lt (ltL [o] rfl (List.forall_mem_cons.mpr ⟨by omega, (fun _ h => absurd h List.not_mem_nil)⟩)) (ltS [o] rfl (List.forall_mem_cons.mpr ⟨by omega, (fun _ h => absurd h List.not_mem_nil)⟩))) O_22 ?_
  rw [show ((12 : Int32)).toNatClampNeg = 12 by decide]
  obtain ⟨σ23, e23⟩ : ∃ x, x = mNew σ22 20 12 12 := ⟨_, rfl⟩
  rw [← e23, show σ22.2.1.length = o + 12 by omega]
  have N_23 : σ23.2.1.length = o + 13 := by rw [e23, len_new]; omega
  have T_23 : σ23.1 = σ.1 + 466 := by rw [e23]; show σ22.1 + 12 = _; omega
  have O_23 : rOK σ23 := by rw [e23]; exact rOK_new O_22
  have X_23 : Ex σ σ23 o := by rw [e23]; exact X_22.new (by omega)
  have K_0_23 : σ23.2.1[o]? = some (4, 0) := by rw [e23]; exact k_new K_0_22
  have K_1_23 : σ23.2.1[o + 1]? = some (20, 100) := by rw [e23]; exact k_new K_1_22
  have K_2_23 : σ23.2.1[o + 2]? = some (20, 100) := by rw [e23]; exact k_new K_2_22
  have K_3_23 : σ23.2.1[o + 3]? = some (20, 101) := by rw [e23]; exact k_new K_3_22
  have K_4_23 : σ23.2.1[o + 4]? = some (20, 101) := by rw [e23]; exact k_new K_4_22
  have K_5_23 : σ23.2.1[o + 5]? = some (20, 4) := by rw [e23]; exact k_new K_5_22
  have K_6_23 : σ23.2.1[o + 6]? = some (20, 4) := by rw [e23]; exact k_new K_6_22
  have K_7_23 : σ23.2.1[o + 7]? = some (20, 4) := by rw [e23]; exact k_new K_7_22
  have K_8_23 : σ23.2.1[o + 8]? = some (20, 4) := by rw [e23]; exact k_new K_8_22
  have K_9_23 : σ23.2.1[o + 9]? = some (20, 12) := by rw [e23]; exact k_new K_9_22
  have K_10_23 : σ23.2.1[o + 10]? = some (20, 12) := by rw [e23]; exact k_new K_10_22
  have K_11_23 : σ23.2.1[o + 11]? = some (20, 12) := by rw [e23]; exact k_new K_11_22
  have G_0_2_23 : σ23.2.2.1 o 2 = some (o + 1) := by rw [e23]; exact g_new (by omega) G_0_2_22
  have G_0_3_23 : σ23.2.2.1 o 3 = some (o + 2) := by rw [e23]; exact g_new (by omega) G_0_3_22
  have G_0_5_23 : σ23.2.2.1 o 5 = some (o + 3) := by rw [e23]; exact g_new (by omega) G_0_5_22
  have G_0_6_23 : σ23.2.2.1 o 6 = some (o + 4) := by rw [e23]; exact g_new (by omega) G_0_6_22
  have G_0_8_23 : σ23.2.2.1 o 8 = some (o + 5) := by rw [e23]; exact g_new (by omega) G_0_8_22
  have G_0_9_23 : σ23.2.2.1 o 9 = some (o + 6) := by rw [e23]; exact g_new (by omega) G_0_9_22
  have G_0_10_23 : σ23.2.2.1 o 10 = some (o + 7) := by rw [e23]; exact g_new (by omega) G_0_10_22
  have G_0_11_23 : σ23.2.2.1 o 11 = some (o + 8) := by rw [e23]; exact g_new (by omega) G_0_11_22
  have G_0_13_23 : σ23.2.2.1 o 13 = some (o + 9) := by rw [e23]; exact g_new (by omega) G_0_13_22
  have G_0_14_23 : σ23.2.2.1 o 14 = some (o + 10) := by rw [e23]; exact g_new (by omega) G_0_14_22
  have G_0_15_23 : σ23.2.2.1 o 15 = some (o + 11) := by rw [e23]; exact g_new (by omega) G_0_15_22
  have R_0_23 : σ23.2.2.2.1 o = fun _ => 0 := by rw [e23]; exact (mup_ne (by omega)).trans R_0_22
  have R_1_23 : σ23.2.2.2.1 (o + 1) = fun _ => 0 := by rw [e23]; exact (mup_ne (by omega)).trans R_1_22
  have R_2_23 : σ23.2.2.2.1 (o + 2) = fun _ => 0 := by rw [e23]; exact (mup_ne (by omega)).trans R_2_22
  have R_3_23 : σ23.2.2.2.1 (o + 3) = fun _ => 0 := by rw [e23]; exact (mup_ne (by omega)).trans R_3_22
  have R_4_23 : σ23.2.2.2.1 (o + 4) = fun _ => 0 := by rw [e23]; exact (mup_ne (by omega)).trans R_4_22
  have R_5_23 : σ23.2.2.2.1 (o + 5) = fun _ => 0 := by rw [e23]; exact (mup_ne (by omega)).trans R_5_22
  have R_6_23 : σ23.2.2.2.1 (o + 6) = fun _ => 0 := by rw [e23]; exact (mup_ne (by omega)).trans R_6_22
  have R_7_23 : σ23.2.2.2.1 (o + 7) = fun _ => 0 := by rw [e23]; exact (mup_ne (by omega)).trans R_7_22
  have R_8_23 : σ23.2.2.2.1 (o + 8) = fun _ => 0 := by rw [e23]; exact (mup_ne (by omega)).trans R_8_22
  have R_9_23 : σ23.2.2.2.1 (o + 9) = fun _ => 0 := by rw [e23]; exact (mup_ne (by omega)).trans R_9_22
  have R_10_23 : σ23.2.2.2.1 (o + 10) = fun _ => 0 := by rw [e23]; exact (mup_ne (by omega)).trans R_10_22
  have R_11_23 : σ23.2.2.2.1 (o + 11) = fun _ => 0 := by rw [e23]; exact (mup_ne (by omega)).trans R_11_22
  have K_12_23 : σ23.2.1[o + 12]? = some (20, 12) := by rw [e23, ← show σ22.2.1.length = o + 12 by omega]; exact k_newS
  have R_12_23 : σ23.2.2.2.1 (o + 12) = fun _ => 0 := by rw [e23, ← show σ22.2.1.length = o + 12 by omega]; exact mup_eq
  clear K_0_22 K_1_22 K_2_22 K_3_22 K_4_22 K_5_22 K_6_22 K_7_22 K_8_22 K_9_22 K_10_22 K_11_22 G_0_2_22 G_0_3_22 G_0_5_22 G_0_6_22 G_0_8_22 G_0_9_22 G_0_10_22 G_0_11_22 G_0_13_22 G_0_14_22 G_0_15_22 R_0_22 R_1_22 R_2_22 R_3_22 R_4_22 R_5_22 R_6_22 R_7_22 R_8_22 R_9_22 R_10_22 R_11_22 N_22 T_22 O_22 X_22 e23 σ22
  show RC _ _ _ [some (.ref o)] [.ref (o + 12), .ref o] σ23 _
  refine c_putr K_0_23 ?_
  obtain ⟨σ24, e24⟩ : ∃ x, x = mPr σ23 o 16 (some (o + 12)) := ⟨_, rfl⟩
  rw [← e24]
  have N_24 : σ24.2.1.length = o + 13 := by rw [e24]; exact N_23
  have T_24 : σ24.1 = σ.1 + 466 := by rw [e24]; exact T_23
  have O_24 : rOK σ24 := by rw [e24]; exact rOK_pr O_23 (by omega)
  have X_24 : Ex σ σ24 o := by rw [e24]; exact X_23.pr (by omega)
  have K_0_24 : σ24.2.1[o]? = some (4, 0) := by rw [e24]; exact K_0_23
  have K_1_24 : σ24.2.1[o + 1]? = some (20, 100) := by rw [e24]; exact K_1_23
  have K_2_24 : σ24.2.1[o + 2]? = some (20, 100) := by rw [e24]; exact K_2_23
  have K_3_24 : σ24.2.1[o + 3]? = some (20, 101) := by rw [e24]; exact K_3_23
  have K_4_24 : σ24.2.1[o + 4]? = some (20, 101) := by rw [e24]; exact K_4_23
  have K_5_24 : σ24.2.1[o + 5]? = some (20, 4) := by rw [e24]; exact K_5_23
  have K_6_24 : σ24.2.1[o + 6]? = some (20, 4) := by rw [e24]; exact K_6_23
  have K_7_24 : σ24.2.1[o + 7]? = some (20, 4) := by rw [e24]; exact K_7_23
  have K_8_24 : σ24.2.1[o + 8]? = some (20, 4) := by rw [e24]; exact K_8_23
  have K_9_24 : σ24.2.1[o + 9]? = some (20, 12) := by rw [e24]; exact K_9_23
  have K_10_24 : σ24.2.1[o + 10]? = some (20, 12) := by rw [e24]; exact K_10_23
  have K_11_24 : σ24.2.1[o + 11]? = some (20, 12) := by rw [e24]; exact K_11_23
  have K_12_24 : σ24.2.1[o + 12]? = some (20, 12) := by rw [e24]; exact K_12_23
  have G_0_2_24 : σ24.2.2.1 o 2 = some (o + 1) := by rw [e24]; exact g_prK (by decide) G_0_2_23
  have G_0_3_24 : σ24.2.2.1 o 3 = some (o + 2) := by rw [e24]; exact g_prK (by decide) G_0_3_23
  have G_0_5_24 : σ24.2.2.1 o 5 = some (o + 3) := by rw [e24]; exact g_prK (by decide) G_0_5_23
  have G_0_6_24 : σ24.2.2.1 o 6 = some (o + 4) := by rw [e24]; exact g_prK (by decide) G_0_6_23
  have G_0_8_24 : σ24.2.2.1 o 8 = some (o + 5) := by rw [e24]; exact g_prK (by decide) G_0_8_23
  have G_0_9_24 : σ24.2.2.1 o 9 = some (o + 6) := by rw [e24]; exact g_prK (by decide) G_0_9_23
  have G_0_10_24 : σ24.2.2.1 o 10 = some (o + 7) := by rw [e24]; exact g_prK (by decide) G_0_10_23
  have G_0_11_24 : σ24.2.2.1 o 11 = some (o + 8) := by rw [e24]; exact g_prK (by decide) G_0_11_23
  have G_0_13_24 : σ24.2.2.1 o 13 = some (o + 9) := by rw [e24]; exact g_prK (by decide) G_0_13_23
  have G_0_14_24 : σ24.2.2.1 o 14 = some (o + 10) := by rw [e24]; exact g_prK (by decide) G_0_14_23
  have G_0_15_24 : σ24.2.2.1 o 15 = some (o + 11) := by rw [e24]; exact g_prK (by decide) G_0_15_23
  have R_0_24 : σ24.2.2.2.1 o = fun _ => 0 := by rw [e24]; exact R_0_23
  have R_1_24 : σ24.2.2.2.1 (o + 1) = fun _ => 0 := by rw [e24]; exact R_1_23
  have R_2_24 : σ24.2.2.2.1 (o + 2) = fun _ => 0 := by rw [e24]; exact R_2_23
  have R_3_24 : σ24.2.2.2.1 (o + 3) = fun _ => 0 := by rw [e24]; exact R_3_23
  have R_4_24 : σ24.2.2.2.1 (o + 4) = fun _ => 0 := by rw [e24]; exact R_4_23
  have R_5_24 : σ24.2.2.2.1 (o + 5) = fun _ => 0 := by rw [e24]; exact R_5_23
  have R_6_24 : σ24.2.2.2.1 (o + 6) = fun _ => 0 := by rw [e24]; exact R_6_23
  have R_7_24 : σ24.2.2.2.1 (o + 7) = fun _ => 0 := by rw [e24]; exact R_7_23
  have R_8_24 : σ24.2.2.2.1 (o + 8) = fun _ => 0 := by rw [e24]; exact R_8_23
  have R_9_24 : σ24.2.2.2.1 (o + 9) = fun _ => 0 := by rw [e24]; exact R_9_23
  have R_10_24 : σ24.2.2.2.1 (o + 10) = fun _ => 0 := by rw [e24]; exact R_10_23
  have R_11_24 : σ24.2.2.2.1 (o + 11) = fun _ => 0 := by rw [e24]; exact R_11_23
  have R_12_24 : σ24.2.2.2.1 (o + 12) = fun _ => 0 := by rw [e24]; exact R_12_23
  have G_0_16_24 : σ24.2.2.1 o 16 = some (o + 12) := by rw [e24]; exact g_prS
  clear K_0_23 K_1_23 K_2_23 K_3_23 K_4_23 K_5_23 K_6_23 K_7_23 K_8_23 K_9_23 K_10_23 K_11_23 K_12_23 G_0_2_23 G_0_3_23 G_0_5_23 G_0_6_23 G_0_8_23 G_0_9_23 G_0_10_23 G_0_11_23 G_0_13_23 G_0_14_23 G_0_15_23 R_0_23 R_1_23 R_2_23 R_3_23 R_4_23 R_5_23 R_6_23 R_7_23 R_8_23 R_9_23 R_10_23 R_11_23 R_12_23 N_23 T_23 O_23 X_23 e24 σ23
  show RC _ _ _ [some (.ref o)] [] σ24 _
  refine c_aload rfl ?_
  refine c_int ?_
  refine c_newa (t := 0) (z := 192) (by decide) (by decide) (mOut_lt (ltL [o] rfl (List.forall_mem_cons.mpr ⟨by omega, (fun _ h => absurd h List.not_mem_nil)⟩)) (ltS [o] rfl (List.forall_mem_cons.mpr ⟨by omega, (fun _ h => absurd h List.not_mem_nil)⟩))) O_24 ?_
  rw [show ((192 : Int32)).toNatClampNeg = 192 by decide]
  obtain ⟨σ25, e25⟩ : ∃ x, x = mNew σ24 20 192 192 := ⟨_, rfl⟩
  rw [← e25, show σ24.2.1.length = o + 13 by omega]
  have N_25 : σ25.2.1.length = o + 14 := by rw [e25, len_new]; omega
  have T_25 : σ25.1 = σ.1 + 658 := by rw [e25]; show σ24.1 + 192 = _; omega
  have O_25 : rOK σ25 := by rw [e25]; exact rOK_new O_24
  have X_25 : Ex σ σ25 o := by rw [e25]; exact X_24.new (by omega)
  have K_0_25 : σ25.2.1[o]? = some (4, 0) := by rw [e25]; exact k_new K_0_24
  have K_1_25 : σ25.2.1[o + 1]? = some (20, 100) := by rw [e25]; exact k_new K_1_24
  have K_2_25 : σ25.2.1[o + 2]? = some (20, 100) := by rw [e25]; exact k_new K_2_24
  have K_3_25 : σ25.2.1[o + 3]? = some (20, 101) := by rw [e25]; exact k_new K_3_24
  have K_4_25 : σ25.2.1[o + 4]? = some (20, 101) := by rw [e25]; exact k_new K_4_24
  have K_5_25 : σ25.2.1[o + 5]? = some (20, 4) := by rw [e25]; exact k_new K_5_24
  have K_6_25 : σ25.2.1[o + 6]? = some (20, 4) := by rw [e25]; exact k_new K_6_24
  have K_7_25 : σ25.2.1[o + 7]? = some (20, 4) := by rw [e25]; exact k_new K_7_24
  have K_8_25 : σ25.2.1[o + 8]? = some (20, 4) := by rw [e25]; exact k_new K_8_24
  have K_9_25 : σ25.2.1[o + 9]? = some (20, 12) := by rw [e25]; exact k_new K_9_24
  have K_10_25 : σ25.2.1[o + 10]? = some (20, 12) := by rw [e25]; exact k_new K_10_24
  have K_11_25 : σ25.2.1[o + 11]? = some (20, 12) := by rw [e25]; exact k_new K_11_24
  have K_12_25 : σ25.2.1[o + 12]? = some (20, 12) := by rw [e25]; exact k_new K_12_24
  have G_0_2_25 : σ25.2.2.1 o 2 = some (o + 1) := by rw [e25]; exact g_new (by omega) G_0_2_24
  have G_0_3_25 : σ25.2.2.1 o 3 = some (o + 2) := by rw [e25]; exact g_new (by omega) G_0_3_24
  have G_0_5_25 : σ25.2.2.1 o 5 = some (o + 3) := by rw [e25]; exact g_new (by omega) G_0_5_24
  have G_0_6_25 : σ25.2.2.1 o 6 = some (o + 4) := by rw [e25]; exact g_new (by omega) G_0_6_24
  have G_0_8_25 : σ25.2.2.1 o 8 = some (o + 5) := by rw [e25]; exact g_new (by omega) G_0_8_24
  have G_0_9_25 : σ25.2.2.1 o 9 = some (o + 6) := by rw [e25]; exact g_new (by omega) G_0_9_24
  have G_0_10_25 : σ25.2.2.1 o 10 = some (o + 7) := by rw [e25]; exact g_new (by omega) G_0_10_24
  have G_0_11_25 : σ25.2.2.1 o 11 = some (o + 8) := by rw [e25]; exact g_new (by omega) G_0_11_24
  have G_0_13_25 : σ25.2.2.1 o 13 = some (o + 9) := by rw [e25]; exact g_new (by omega) G_0_13_24
  have G_0_14_25 : σ25.2.2.1 o 14 = some (o + 10) := by rw [e25]; exact g_new (by omega) G_0_14_24
  have G_0_15_25 : σ25.2.2.1 o 15 = some (o + 11) := by rw [e25]; exact g_new (by omega) G_0_15_24
  have G_0_16_25 : σ25.2.2.1 o 16 = some (o + 12) := by rw [e25]; exact g_new (by omega) G_0_16_24
  have R_0_25 : σ25.2.2.2.1 o = fun _ => 0 := by rw [e25]; exact (mup_ne (by omega)).trans R_0_24
  have R_1_25 : σ25.2.2.2.1 (o + 1) = fun _ => 0 := by rw [e25]; exact (mup_ne (by omega)).trans R_1_24
  have R_2_25 : σ25.2.2.2.1 (o + 2) = fun _ => 0 := by rw [e25]; exact (mup_ne (by omega)).trans R_2_24
  have R_3_25 : σ25.2.2.2.1 (o + 3) = fun _ => 0 := by rw [e25]; exact (mup_ne (by omega)).trans R_3_24
  have R_4_25 : σ25.2.2.2.1 (o + 4) = fun _ => 0 := by rw [e25]; exact (mup_ne (by omega)).trans R_4_24
  have R_5_25 : σ25.2.2.2.1 (o + 5) = fun _ => 0 := by rw [e25]; exact (mup_ne (by omega)).trans R_5_24
  have R_6_25 : σ25.2.2.2.1 (o + 6) = fun _ => 0 := by rw [e25]; exact (mup_ne (by omega)).trans R_6_24
  have R_7_25 : σ25.2.2.2.1 (o + 7) = fun _ => 0 := by rw [e25]; exact (mup_ne (by omega)).trans R_7_24
  have R_8_25 : σ25.2.2.2.1 (o + 8) = fun _ => 0 := by rw [e25]; exact (mup_ne (by omega)).trans R_8_24
  have R_9_25 : σ25.2.2.2.1 (o + 9) = fun _ => 0 := by rw [e25]; exact (mup_ne (by omega)).trans R_9_24
  have R_10_25 : σ25.2.2.2.1 (o + 10) = fun _ => 0 := by rw [e25]; exact (mup_ne (by omega)).trans R_10_24
  have R_11_25 : σ25.2.2.2.1 (o + 11) = fun _ => 0 := by rw [e25]; exact (mup_ne (by omega)).trans R_11_24
  have R_12_25 : σ25.2.2.2.1 (o + 12) = fun _ => 0 := by rw [e25]; exact (mup_ne (by omega)).trans R_12_24
  have K_13_25 : σ25.2.1[o + 13]? = some (20, 192) := by rw [e25, ← show σ24.2.1.length = o + 13 by omega]; exact k_newS
  have R_13_25 : σ25.2.2.2.1 (o + 13) = fun _ => 0 := by rw [e25, ← show σ24.2.1.length = o + 13 by omega]; exact mup_eq
  clear K_0_24 K_1_24 K_2_24 K_3_24 K_4_24 K_5_24 K_6_24 K_7_24 K_8_24 K_9_24 K_10_24 K_11_24 K_12_24 G_0_2_24 G_0_3_24 G_0_5_24 G_0_6_24 G_0_8_24 G_0_9_24 G_0_10_24 G_0_11_24 G_0_13_24 G_0_14_24 G_0_15_24 G_0_16_24 R_0_24 R_1_24 R_2_24 R_3_24 R_4_24 R_5_24 R_6_24 R_7_24 R_8_24 R_9_24 R_10_24 R_11_24 R_12_24 N_24 T_24 O_24 X_24 e25 σ24
  show RC _ _ _ [some (.ref o)] [.ref (o + 13), .ref o] σ25 _
  refine c_putr K_0_25 ?_
  obtain ⟨σ26, e26⟩ : ∃ x, x = mPr σ25 o 17 (some (o + 13)) := ⟨_, rfl⟩
  rw [← e26]
  have N_26 : σ26.2.1.length = o + 14 := by rw [e26]; exact N_25
  have T_26 : σ26.1 = σ.1 + 658 := by rw [e26]; exact T_25
  have O_26 : rOK σ26 := by rw [e26]; exact rOK_pr O_25 (by omega)
  have X_26 : Ex σ σ26 o := by rw [e26]; exact X_25.pr (by omega)
  have K_0_26 : σ26.2.1[o]? = some (4, 0) := by rw [e26]; exact K_0_25
  have K_1_26 : σ26.2.1[o + 1]? = some (20, 100) := by rw [e26]; exact K_1_25
  have K_2_26 : σ26.2.1[o + 2]? = some (20, 100) := by rw [e26]; exact K_2_25
  have K_3_26 : σ26.2.1[o + 3]? = some (20, 101) := by rw [e26]; exact K_3_25
  have K_4_26 : σ26.2.1[o + 4]? = some (20, 101) := by rw [e26]; exact K_4_25
  have K_5_26 : σ26.2.1[o + 5]? = some (20, 4) := by rw [e26]; exact K_5_25
  have K_6_26 : σ26.2.1[o + 6]? = some (20, 4) := by rw [e26]; exact K_6_25
  have K_7_26 : σ26.2.1[o + 7]? = some (20, 4) := by rw [e26]; exact K_7_25
  have K_8_26 : σ26.2.1[o + 8]? = some (20, 4) := by rw [e26]; exact K_8_25
  have K_9_26 : σ26.2.1[o + 9]? = some (20, 12) := by rw [e26]; exact K_9_25
  have K_10_26 : σ26.2.1[o + 10]? = some (20, 12) := by rw [e26]; exact K_10_25
  have K_11_26 : σ26.2.1[o + 11]? = some (20, 12) := by rw [e26]; exact K_11_25
  have K_12_26 : σ26.2.1[o + 12]? = some (20, 12) := by rw [e26]; exact K_12_25
  have K_13_26 : σ26.2.1[o + 13]? = some (20, 192) := by rw [e26]; exact K_13_25
  have G_0_2_26 : σ26.2.2.1 o 2 = some (o + 1) := by rw [e26]; exact g_prK (by decide) G_0_2_25
  have G_0_3_26 : σ26.2.2.1 o 3 = some (o + 2) := by rw [e26]; exact g_prK (by decide) G_0_3_25
  have G_0_5_26 : σ26.2.2.1 o 5 = some (o + 3) := by rw [e26]; exact g_prK (by decide) G_0_5_25
  have G_0_6_26 : σ26.2.2.1 o 6 = some (o + 4) := by rw [e26]; exact g_prK (by decide) G_0_6_25
  have G_0_8_26 : σ26.2.2.1 o 8 = some (o + 5) := by rw [e26]; exact g_prK (by decide) G_0_8_25
  have G_0_9_26 : σ26.2.2.1 o 9 = some (o + 6) := by rw [e26]; exact g_prK (by decide) G_0_9_25
  have G_0_10_26 : σ26.2.2.1 o 10 = some (o + 7) := by rw [e26]; exact g_prK (by decide) G_0_10_25
  have G_0_11_26 : σ26.2.2.1 o 11 = some (o + 8) := by rw [e26]; exact g_prK (by decide) G_0_11_25
  have G_0_13_26 : σ26.2.2.1 o 13 = some (o + 9) := by rw [e26]; exact g_prK (by decide) G_0_13_25
  have G_0_14_26 : σ26.2.2.1 o 14 = some (o + 10) := by rw [e26]; exact g_prK (by decide) G_0_14_25
  have G_0_15_26 : σ26.2.2.1 o 15 = some (o + 11) := by rw [e26]; exact g_prK (by decide) G_0_15_25
  have G_0_16_26 : σ26.2.2.1 o 16 = some (o + 12) := by rw [e26]; exact g_prK (by decide) G_0_16_25
  have R_0_26 : σ26.2.2.2.1 o = fun _ => 0 := by rw [e26]; exact R_0_25
  have R_1_26 : σ26.2.2.2.1 (o + 1) = fun _ => 0 := by rw [e26]; exact R_1_25
  have R_2_26 : σ26.2.2.2.1 (o + 2) = fun _ => 0 := by rw [e26]; exact R_2_25
  have R_3_26 : σ26.2.2.2.1 (o + 3) = fun _ => 0 := by rw [e26]; exact R_3_25
  have R_4_26 : σ26.2.2.2.1 (o + 4) = fun _ => 0 := by rw [e26]; exact R_4_25
  have R_5_26 : σ26.2.2.2.1 (o + 5) = fun _ => 0 := by rw [e26]; exact R_5_25
  have R_6_26 : σ26.2.2.2.1 (o + 6) = fun _ => 0 := by rw [e26]; exact R_6_25
  have R_7_26 : σ26.2.2.2.1 (o + 7) = fun _ => 0 := by rw [e26]; exact R_7_25
  have R_8_26 : σ26.2.2.2.1 (o + 8) = fun _ => 0 := by rw [e26]; exact R_8_25
  have R_9_26 : σ26.2.2.2.1 (o + 9) = fun _ => 0 := by rw [e26]; exact R_9_25
  have R_10_26 : σ26.2.2.2.1 (o + 10) = fun _ => 0 := by rw [e26]; exact R_10_25
  have R_11_26 : σ26.2.2.2.1 (o + 11) = fun _ => 0 := by rw [e26]; exact R_11_25
  have R_12_26 : σ26.2.2.2.1 (o + 12) = fun _ => 0 := by rw [e26]; exact R_12_25
  have R_13_26 : σ26.2.2.2.1 (o + 13) = fun _ => 0 := by rw [e26]; exact R_13_25
  have G_0_17_26 : σ26.2.2.1 o 17 = some (o + 13) := by rw [e26]; exact g_prS
  clear K_0_25 K_1_25 K_2_25 K_3_25 K_4_25 K_5_25 K_6_25 K_7_25 K_8_25 K_9_25 K_10_25 K_11_25 K_12_25 K_13_25 G_0_2_25 G_0_3_25 G_0_5_25 G_0_6_25 G_0_8_25 G_0_9_25 G_0_10_25 G_0_11_25 G_0_13_25 G_0_14_25 G_0_15_25 G_0_16_25 R_0_25 R_1_25 R_2_25 R_3_25 R_4_25 R_5_25 R_6_25 R_7_25 R_8_25 R_9_25 R_10_25 R_11_25 R_12_25 R_13_25 N_25 T_25 O_25 X_25 e26 σ25
  show RC _ _ _ [some (.ref o)] [] σ26 _
  have HP : isPrg (mBo σ26) o := ⟨K_0_26, K_1_26, K_2_26, K_3_26, K_4_26, K_5_26, K_6_26, K_7_26, K_8_26, K_9_26, K_10_26, K_11_26, K_12_26, K_13_26, G_0_2_26, G_0_3_26, G_0_5_26, G_0_6_26, G_0_8_26, G_0_9_26, G_0_10_26, G_0_11_26, G_0_13_26, G_0_14_26, G_0_15_26, G_0_16_26, G_0_17_26⟩
  refine c_rest (Q := fun r τ => r = none ∧ (fun τ => Ex σ τ o ∧ τ.2.1.length = o + 1 + 13 ∧ τ.1 = σ.1 + 658 ∧ rOK τ ∧ isPrg (mBo τ) o ∧ τ.2.2.2.1 o = (FX4_empty (fun _ => 0) (fun _ => 0)).2.1 ∧ τ.2.2.2.1 (o + 13) = (FX4_empty (fun _ => 0) (fun _ => 0)).2.2) τ) (by omega) ?_ (fun r τ h => h)
  have hlay := mSt_lay (σ := σ26) [(o, fun _ => 0), (o + 13, fun _ => 0)] (List.forall_mem_cons.mpr ⟨R_0_26, (List.forall_mem_cons.mpr ⟨R_13_26, (fun _ h => absurd h List.not_mem_nil)⟩)⟩)
  rw [← hlay]
  clear hlay
  exact tX4_init_t (B := mBo σ26) HP (fun _ => 0) (fun _ => 0) (pFill192 _ _).1 ⟨rfl, X_26.lay _ (List.forall_mem_cons.mpr ⟨Or.inl rfl, (List.forall_mem_cons.mpr ⟨Or.inr (by show σ.2.1.length ≤ o + 13; omega), (fun _ h => absurd h List.not_mem_nil)⟩)⟩), by show σ26.2.1.length = _; omega, T_26, O_26, HP, mup_eq, ((mup_ne (by omega)).trans mup_eq)⟩
set_option maxRecDepth 20000 in
set_option maxHeartbeats 4000000 in
theorem nY5_init {d : Nat} {σ : mMH} {o : Nat} (hL : σ.2.1.length = o + 1) (hO : rOK σ) (hR : σ.2.2.2.1 o = fun _ => 0) (hK : σ.2.1[o]? = some (5, 0)) (hz : o + 20 ≤ 1000000) : CC (d + 6) 78 [.ref o] σ (fun τ => Ex σ τ o ∧ τ.2.1.length = o + 1 + 19 ∧ τ.1 = σ.1 + 1055 ∧ rOK τ ∧ isRd (mBo τ) o ∧ τ.2.2.2.1 (o + 1) = (FX5_init_t (fun _ => 0)).2) := by
  have K_0_0 := hK
  have R_0_0 := hR
  have O_0 := hO
  have N_0 := hL
  have T_0 : σ.1 = σ.1 + 0 := rfl
  have X_0 : Ex σ σ o := Ex.rf
  refine c_begin mt_78 (by intro a ha; simp only [List.mem_cons, List.not_mem_nil, or_false] at ha; rcases ha with rfl <;> rfl) (Nat.le_of_ble_eq_true rfl) ?_
  show RC _ _ _ [some (.ref o), none] [] σ _
  refine c_aload rfl ?_
  refine c_obj (Nat.le_of_ble_eq_true rfl) ?_
  refine c_aload rfl ?_
  refine c_int ?_
  refine c_newa (t := 0) (z := 43) (by decide) (by decide) (mOut_lt (ltL [o] rfl (List.forall_mem_cons.mpr ⟨by omega, (fun _ h => absurd h List.not_mem_nil)⟩)) (ltS [o] rfl (List.forall_mem_cons.mpr ⟨by omega, (fun _ h => absurd h List.not_mem_nil)⟩))) O_0 ?_
  rw [show ((43 : Int32)).toNatClampNeg = 43 by decide]
  obtain ⟨σ1, e1⟩ : ∃ x, x = mNew σ 20 43 43 := ⟨_, rfl⟩
  rw [← e1, show σ.2.1.length = o + 1 by omega]
  have N_1 : σ1.2.1.length = o + 2 := by rw [e1, len_new]; omega
  have T_1 : σ1.1 = σ.1 + 43 := by rw [e1]; show σ.1 + 43 = _; omega
  have O_1 : rOK σ1 := by rw [e1]; exact rOK_new O_0
  have X_1 : Ex σ σ1 o := by rw [e1]; exact X_0.new (by omega)
  have K_0_1 : σ1.2.1[o]? = some (5, 0) := by rw [e1]; exact k_new K_0_0
  have R_0_1 : σ1.2.2.2.1 o = fun _ => 0 := by rw [e1]; exact (mup_ne (by omega)).trans R_0_0
  have K_1_1 : σ1.2.1[o + 1]? = some (20, 43) := by rw [e1, ← show σ.2.1.length = o + 1 by omega]; exact k_newS
  have R_1_1 : σ1.2.2.2.1 (o + 1) = fun _ => 0 := by rw [e1, ← show σ.2.1.length = o + 1 by omega]; exact mup_eq
  clear K_0_0 R_0_0 N_0 T_0 O_0 X_0 e1
  show RC _ _ _ [some (.ref o), none] [.ref (o + 1), .ref o] σ1 _
  refine c_putr K_0_1 ?_
  obtain ⟨σ2, e2⟩ : ∃ x, x = mPr σ1 o 0 (some (o + 1)) := ⟨_, rfl⟩
  rw [← e2]
  have N_2 : σ2.2.1.length = o + 2 := by rw [e2]; exact N_1
  have T_2 : σ2.1 = σ.1 + 43 := by rw [e2]; exact T_1
  have O_2 : rOK σ2 := by rw [e2]; exact rOK_pr O_1 (by omega)
  have X_2 : Ex σ σ2 o := by rw [e2]; exact X_1.pr (by omega)
  have K_0_2 : σ2.2.1[o]? = some (5, 0) := by rw [e2]; exact K_0_1
  have K_1_2 : σ2.2.1[o + 1]? = some (20, 43) := by rw [e2]; exact K_1_1
  have R_0_2 : σ2.2.2.2.1 o = fun _ => 0 := by rw [e2]; exact R_0_1
  have R_1_2 : σ2.2.2.2.1 (o + 1) = fun _ => 0 := by rw [e2]; exact R_1_1
  have G_0_0_2 : σ2.2.2.1 o 0 = some (o + 1) := by rw [e2]; exact g_prS
  clear K_0_1 K_1_1 R_0_1 R_1_1 N_1 T_1 O_1 X_1 e2 σ1
  show RC _ _ _ [some (.ref o), none] [] σ2 _
  refine c_aload rfl ?_
  refine c_int ?_
  refine c_newa (t := 1) (z := 0) (by decide) (by decide) (mOut_lt (ltL [o] rfl (List.forall_mem_cons.mpr ⟨by omega, (fun _ h => absurd h List.not_mem_nil)⟩)) (ltS [o] rfl (List.forall_mem_cons.mpr ⟨by omega, (fun _ h => absurd h List.not_mem_nil)⟩))) O_2 ?_
  rw [show ((0 : Int32)).toNatClampNeg = 0 by decide]
  obtain ⟨σ3, e3⟩ : ∃ x, x = mNew σ2 21 0 0 := ⟨_, rfl⟩
  rw [← e3, show σ2.2.1.length = o + 2 by omega]
  have N_3 : σ3.2.1.length = o + 3 := by rw [e3, len_new]; omega
  have T_3 : σ3.1 = σ.1 + 43 := by rw [e3]; show σ2.1 + 0 = _; omega
  have O_3 : rOK σ3 := by rw [e3]; exact rOK_new O_2
  have X_3 : Ex σ σ3 o := by rw [e3]; exact X_2.new (by omega)
  have K_0_3 : σ3.2.1[o]? = some (5, 0) := by rw [e3]; exact k_new K_0_2
  have K_1_3 : σ3.2.1[o + 1]? = some (20, 43) := by rw [e3]; exact k_new K_1_2
  have G_0_0_3 : σ3.2.2.1 o 0 = some (o + 1) := by rw [e3]; exact g_new (by omega) G_0_0_2
  have R_0_3 : σ3.2.2.2.1 o = fun _ => 0 := by rw [e3]; exact (mup_ne (by omega)).trans R_0_2
  have R_1_3 : σ3.2.2.2.1 (o + 1) = fun _ => 0 := by rw [e3]; exact (mup_ne (by omega)).trans R_1_2
  have K_2_3 : σ3.2.1[o + 2]? = some (21, 0) := by rw [e3, ← show σ2.2.1.length = o + 2 by omega]; exact k_newS
  have R_2_3 : σ3.2.2.2.1 (o + 2) = fun _ => 0 := by rw [e3, ← show σ2.2.1.length = o + 2 by omega]; exact mup_eq
  clear K_0_2 K_1_2 G_0_0_2 R_0_2 R_1_2 N_2 T_2 O_2 X_2 e3 σ2
  show RC _ _ _ [some (.ref o), none] [.ref (o + 2), .ref o] σ3 _
  refine c_putr K_0_3 ?_
  obtain ⟨σ4, e4⟩ : ∃ x, x = mPr σ3 o 1 (some (o + 2)) := ⟨_, rfl⟩
  rw [← e4]
  have N_4 : σ4.2.1.length = o + 3 := by rw [e4]; exact N_3
  have T_4 : σ4.1 = σ.1 + 43 := by rw [e4]; exact T_3
  have O_4 : rOK σ4 := by rw [e4]; exact rOK_pr O_3 (by omega)
  have X_4 : Ex σ σ4 o := by rw [e4]; exact X_3.pr (by omega)
  have K_0_4 : σ4.2.1[o]? = some (5, 0) := by rw [e4]; exact K_0_3
  have K_1_4 : σ4.2.1[o + 1]? = some (20, 43) := by rw [e4]; exact K_1_3
  have K_2_4 : σ4.2.1[o + 2]? = some (21, 0) := by rw [e4]; exact K_2_3
  have G_0_0_4 : σ4.2.2.1 o 0 = some (o + 1) := by rw [e4]; exact g_prK (by decide) G_0_0_3
  have R_0_4 : σ4.2.2.2.1 o = fun _ => 0 := by rw [e4]; exact R_0_3
  have R_1_4 : σ4.2.2.2.1 (o + 1) = fun _ => 0 := by rw [e4]; exact R_1_3
  have R_2_4 : σ4.2.2.2.1 (o + 2) = fun _ => 0 := by rw [e4]; exact R_2_3
  have G_0_1_4 : σ4.2.2.1 o 1 = some (o + 2) := by rw [e4]; exact g_prS
  clear K_0_3 K_1_3 K_2_3 G_0_0_3 R_0_3 R_1_3 R_2_3 N_3 T_3 O_3 X_3 e4 σ3
  show RC _ _ _ [some (.ref o), none] [] σ4 _
  refine c_aload rfl ?_
  refine c_new (k := 4) (mOut_lt (ltL [o] rfl (List.forall_mem_cons.mpr ⟨by omega, (fun _ h => absurd h List.not_mem_nil)⟩)) (ltS [o] rfl (List.forall_mem_cons.mpr ⟨by omega, (fun _ h => absurd h List.not_mem_nil)⟩))) O_4 ?_
  obtain ⟨σ5, e5⟩ : ∃ x, x = mNew σ4 4 0 (mFt.getD 4 []).length := ⟨_, rfl⟩
  rw [← e5, show σ4.2.1.length = o + 3 by omega]
  have N_5 : σ5.2.1.length = o + 4 := by rw [e5, len_new]; omega
  have T_5 : σ5.1 = σ.1 + 61 := by rw [e5]; show σ4.1 + 18 = _; omega
  have O_5 : rOK σ5 := by rw [e5]; exact rOK_new O_4
  have X_5 : Ex σ σ5 o := by rw [e5]; exact X_4.new (by omega)
  have K_0_5 : σ5.2.1[o]? = some (5, 0) := by rw [e5]; exact k_new K_0_4
  have K_1_5 : σ5.2.1[o + 1]? = some (20, 43) := by rw [e5]; exact k_new K_1_4
  have K_2_5 : σ5.2.1[o + 2]? = some (21, 0) := by rw [e5]; exact k_new K_2_4
  have G_0_0_5 : σ5.2.2.1 o 0 = some (o + 1) := by rw [e5]; exact g_new (by omega) G_0_0_4
  have G_0_1_5 : σ5.2.2.1 o 1 = some (o + 2) := by rw [e5]; exact g_new (by omega) G_0_1_4
  have R_0_5 : σ5.2.2.2.1 o = fun _ => 0 := by rw [e5]; exact (mup_ne (by omega)).trans R_0_4
  have R_1_5 : σ5.2.2.2.1 (o + 1) = fun _ => 0 := by rw [e5]; exact (mup_ne (by omega)).trans R_1_4
  have R_2_5 : σ5.2.2.2.1 (o + 2) = fun _ => 0 := by rw [e5]; exact (mup_ne (by omega)).trans R_2_4
  have K_3_5 : σ5.2.1[o + 3]? = some (4, 0) := by rw [e5, ← show σ4.2.1.length = o + 3 by omega]; exact k_newS
  have R_3_5 : σ5.2.2.2.1 (o + 3) = fun _ => 0 := by rw [e5, ← show σ4.2.1.length = o + 3 by omega]; exact mup_eq
  clear K_0_4 K_1_4 K_2_4 G_0_0_4 G_0_1_4 R_0_4 R_1_4 R_2_4 N_4 T_4 O_4 X_4 e5 σ4
  show RC _ _ _ [some (.ref o), none] [.ref (o + 3), .ref o] σ5 _
  refine c_dup rfl ?_
  refine c_call (o := o + 3) (as := []) (st := [.ref (o + 3), .ref o]) (rfl) rfl (Nat.le_of_ble_eq_true rfl) (Or.inl rfl) (ltL [o] rfl (List.forall_mem_cons.mpr ⟨by omega, (fun _ h => absurd h List.not_mem_nil)⟩)) (ltS [o + 3, o] rfl (List.forall_mem_cons.mpr ⟨by omega, (List.forall_mem_cons.mpr ⟨by omega, (fun _ h => absurd h List.not_mem_nil)⟩)⟩)) (nY4_init (by omega) O_5 R_3_5 K_3_5 (by omega)) (fun σ6 Z_6 => ?_)
  obtain ⟨E_6, NN_6, TT_6, O_6, Y0_6, Y1_6, Y2_6⟩ := Z_6
  have N_6 : σ6.2.1.length = o + 17 := by omega
  have T_6 : σ6.1 = σ.1 + 719 := by omega
  have X_6 : Ex σ σ6 o := X_5.call E_6 (by omega)
  have K_0_6 : σ6.2.1[o]? = some (5, 0) := E_6.1 _ _ K_0_5
  have K_1_6 : σ6.2.1[o + 1]? = some (20, 43) := E_6.1 _ _ K_1_5
  have K_2_6 : σ6.2.1[o + 2]? = some (21, 0) := E_6.1 _ _ K_2_5
  have K_3_6 : σ6.2.1[o + 3]? = some (4, 0) := E_6.1 _ _ K_3_5
  have G_0_0_6 : σ6.2.2.1 o 0 = some (o + 1) := by rw [(E_6.2 _ (by omega) (by omega)).1]; exact G_0_0_5
  have G_0_1_6 : σ6.2.2.1 o 1 = some (o + 2) := by rw [(E_6.2 _ (by omega) (by omega)).1]; exact G_0_1_5
  have R_0_6 : σ6.2.2.2.1 o = fun _ => 0 := by rw [(E_6.2 _ (by omega) (by omega)).2.1]; exact R_0_5
  have R_1_6 : σ6.2.2.2.1 (o + 1) = fun _ => 0 := by rw [(E_6.2 _ (by omega) (by omega)).2.1]; exact R_1_5
  have R_2_6 : σ6.2.2.2.1 (o + 2) = fun _ => 0 := by rw [(E_6.2 _ (by omega) (by omega)).2.1]; exact R_2_5
  have S_0_6 : isPrg (mBo σ6) (o + 3) := Y0_6
  have R_3_6 : σ6.2.2.2.1 (o + 3) = (FX4_empty (fun _ => 0) (fun _ => 0)).2.1 := Y1_6
  have R_16_6 : σ6.2.2.2.1 (o + 16) = (FX4_empty (fun _ => 0) (fun _ => 0)).2.2 := Y2_6
  clear K_0_5 K_1_5 K_2_5 K_3_5 G_0_0_5 G_0_1_5 R_0_5 R_1_5 R_2_5 R_3_5 N_5 T_5 O_5 X_5 E_6 NN_6 TT_6 Y0_6 Y1_6 Y2_6 σ5
  show RC _ _ _ [some (.ref o), none] [.ref (o + 3), .ref o] σ6 _
  refine c_putr K_0_6 ?_
  obtain ⟨σ7, e7⟩ : ∃ x, x = mPr σ6 o 3 (some (o + 3)) := ⟨_, rfl⟩
  rw [← e7]
  have N_7 : σ7.2.1.length = o + 17 := by rw [e7]; exact N_6
  have T_7 : σ7.1 = σ.1 + 719 := by rw [e7]; exact T_6
  have O_7 : rOK σ7 := by rw [e7]; exact rOK_pr O_6 (by omega)
  have X_7 : Ex σ σ7 o := by rw [e7]; exact X_6.pr (by omega)
  have K_0_7 : σ7.2.1[o]? = some (5, 0) := by rw [e7]; exact K_0_6
  have K_1_7 : σ7.2.1[o + 1]? = some (20, 43) := by rw [e7]; exact K_1_6
  have K_2_7 : σ7.2.1[o + 2]? = some (21, 0) := by rw [e7]; exact K_2_6
  have K_3_7 : σ7.2.1[o + 3]? = some (4, 0) := by rw [e7]; exact K_3_6
  have G_0_0_7 : σ7.2.2.1 o 0 = some (o + 1) := by rw [e7]; exact g_prK (by decide) G_0_0_6
  have G_0_1_7 : σ7.2.2.1 o 1 = some (o + 2) := by rw [e7]; exact g_prK (by decide) G_0_1_6
  have S_0_7 : isPrg (mBo σ7) (o + 3) := by rw [e7]; exact isPrg_ext S_0_6 (fun q x h => h) (fun q h1 h2 => mup_ne (by omega))
  have R_0_7 : σ7.2.2.2.1 o = fun _ => 0 := by rw [e7]; exact R_0_6
  have R_1_7 : σ7.2.2.2.1 (o + 1) = fun _ => 0 := by rw [e7]; exact R_1_6
  have R_2_7 : σ7.2.2.2.1 (o + 2) = fun _ => 0 := by rw [e7]; exact R_2_6
  have R_3_7 : σ7.2.2.2.1 (o + 3) = (FX4_empty (fun _ => 0) (fun _ => 0)).2.1 := by rw [e7]; exact R_3_6
  have R_16_7 : σ7.2.2.2.1 (o + 16) = (FX4_empty (fun _ => 0) (fun _ => 0)).2.2 := by rw [e7]; exact R_16_6
  have G_0_3_7 : σ7.2.2.1 o 3 = some (o + 3) := by rw [e7]; exact g_prS
  clear K_0_6 K_1_6 K_2_6 K_3_6 G_0_0_6 G_0_1_6 S_0_6 R_0_6 R_1_6 R_2_6 R_3_6 R_16_6 N_6 T_6 O_6 X_6 e7 σ6
  show RC _ _ _ [some (.ref o), none] [] σ7 _
  refine c_aload rfl ?_
  refine c_int ?_
  refine c_newa (t := 0) (z := 112) (by decide) (by decide) (mOut_lt (ltL [o] rfl (List.forall_mem_cons.mpr ⟨by omega, (fun _ h => absurd h List.not_mem_nil)⟩)) (ltS [o] rfl (List.forall_mem_cons.mpr ⟨by omega, (fun _ h => absurd h List.not_mem_nil)⟩))) O_7 ?_
  rw [show ((112 : Int32)).toNatClampNeg = 112 by decide]
  obtain ⟨σ8, e8⟩ : ∃ x, x = mNew σ7 20 112 112 := ⟨_, rfl⟩
  rw [← e8, show σ7.2.1.length = o + 17 by omega]
  have N_8 : σ8.2.1.length = o + 18 := by rw [e8, len_new]; omega
  have T_8 : σ8.1 = σ.1 + 831 := by rw [e8]; show σ7.1 + 112 = _; omega
  have O_8 : rOK σ8 := by rw [e8]; exact rOK_new O_7
  have X_8 : Ex σ σ8 o := by rw [e8]; exact X_7.new (by omega)
  have K_0_8 : σ8.2.1[o]? = some (5, 0) := by rw [e8]; exact k_new K_0_7
  have K_1_8 : σ8.2.1[o + 1]? = some (20, 43) := by rw [e8]; exact k_new K_1_7
  have K_2_8 : σ8.2.1[o + 2]? = some (21, 0) := by rw [e8]; exact k_new K_2_7
  have K_3_8 : σ8.2.1[o + 3]? = some (4, 0) := by rw [e8]; exact k_new K_3_7
  have G_0_0_8 : σ8.2.2.1 o 0 = some (o + 1) := by rw [e8]; exact g_new (by omega) G_0_0_7
  have G_0_1_8 : σ8.2.2.1 o 1 = some (o + 2) := by rw [e8]; exact g_new (by omega) G_0_1_7
  have G_0_3_8 : σ8.2.2.1 o 3 = some (o + 3) := by rw [e8]; exact g_new (by omega) G_0_3_7
  have S_0_8 : isPrg (mBo σ8) (o + 3) := by rw [e8]; exact isPrg_ext S_0_7 (fun q x h => k_new h) (fun q h1 h2 => mup_ne (by omega))
  have R_0_8 : σ8.2.2.2.1 o = fun _ => 0 := by rw [e8]; exact (mup_ne (by omega)).trans R_0_7
  have R_1_8 : σ8.2.2.2.1 (o + 1) = fun _ => 0 := by rw [e8]; exact (mup_ne (by omega)).trans R_1_7
  have R_2_8 : σ8.2.2.2.1 (o + 2) = fun _ => 0 := by rw [e8]; exact (mup_ne (by omega)).trans R_2_7
  have R_3_8 : σ8.2.2.2.1 (o + 3) = (FX4_empty (fun _ => 0) (fun _ => 0)).2.1 := by rw [e8]; exact (mup_ne (by omega)).trans R_3_7
  have R_16_8 : σ8.2.2.2.1 (o + 16) = (FX4_empty (fun _ => 0) (fun _ => 0)).2.2 := by rw [e8]; exact (mup_ne (by omega)).trans R_16_7
  have K_17_8 : σ8.2.1[o + 17]? = some (20, 112) := by rw [e8, ← show σ7.2.1.length = o + 17 by omega]; exact k_newS
  have R_17_8 : σ8.2.2.2.1 (o + 17) = fun _ => 0 := by rw [e8, ← show σ7.2.1.length = o + 17 by omega]; exact mup_eq
  clear K_0_7 K_1_7 K_2_7 K_3_7 G_0_0_7 G_0_1_7 G_0_3_7 S_0_7 R_0_7 R_1_7 R_2_7 R_3_7 R_16_7 N_7 T_7 O_7 X_7 e8 σ7
  show RC _ _ _ [some (.ref o), none] [.ref (o + 17), .ref o] σ8 _
  refine c_putr K_0_8 ?_
  obtain ⟨σ9, e9⟩ : ∃ x, x = mPr σ8 o 11 (some (o + 17)) := ⟨_, rfl⟩
  rw [← e9]
  have N_9 : σ9.2.1.length = o + 18 := by rw [e9]; exact N_8
  have T_9 : σ9.1 = σ.1 + 831 := by rw [e9]; exact T_8
  have O_9 : rOK σ9 := by rw [e9]; exact rOK_pr O_8 (by omega)
  have X_9 : Ex σ σ9 o := by rw [e9]; exact X_8.pr (by omega)
  have K_0_9 : σ9.2.1[o]? = some (5, 0) := by rw [e9]; exact K_0_8
  have K_1_9 : σ9.2.1[o + 1]? = some (20, 43) := by rw [e9]; exact K_1_8
  have K_2_9 : σ9.2.1[o + 2]? = some (21, 0) := by rw [e9]; exact K_2_8
  have K_3_9 : σ9.2.1[o + 3]? = some (4, 0) := by rw [e9]; exact K_3_8
  have K_17_9 : σ9.2.1[o + 17]? = some (20, 112) := by rw [e9]; exact K_17_8
  have G_0_0_9 : σ9.2.2.1 o 0 = some (o + 1) := by rw [e9]; exact g_prK (by decide) G_0_0_8
  have G_0_1_9 : σ9.2.2.1 o 1 = some (o + 2) := by rw [e9]; exact g_prK (by decide) G_0_1_8
  have G_0_3_9 : σ9.2.2.1 o 3 = some (o + 3) := by rw [e9]; exact g_prK (by decide) G_0_3_8
  have S_0_9 : isPrg (mBo σ9) (o + 3) := by rw [e9]; exact isPrg_ext S_0_8 (fun q x h => h) (fun q h1 h2 => mup_ne (by omega))
  have R_0_9 : σ9.2.2.2.1 o = fun _ => 0 := by rw [e9]; exact R_0_8
  have R_1_9 : σ9.2.2.2.1 (o + 1) = fun _ => 0 := by rw [e9]; exact R_1_8
  have R_2_9 : σ9.2.2.2.1 (o + 2) = fun _ => 0 := by rw [e9]; exact R_2_8
  have R_3_9 : σ9.2.2.2.1 (o + 3) = (FX4_empty (fun _ => 0) (fun _ => 0)).2.1 := by rw [e9]; exact R_3_8
  have R_16_9 : σ9.2.2.2.1 (o + 16) = (FX4_empty (fun _ => 0) (fun _ => 0)).2.2 := by rw [e9]; exact R_16_8
  have R_17_9 : σ9.2.2.2.1 (o + 17) = fun _ => 0 := by rw [e9]; exact R_17_8
  have G_0_11_9 : σ9.2.2.1 o 11 = some (o + 17) := by rw [e9]; exact g_prS
  clear K_0_8 K_1_8 K_2_8 K_3_8 K_17_8 G_0_0_8 G_0_1_8 G_0_3_8 S_0_8 R_0_8 R_1_8 R_2_8 R_3_8 R_16_8 R_17_8 N_8 T_8 O_8 X_8 e9 σ8
  show RC _ _ _ [some (.ref o), none] [] σ9 _
  refine c_aload rfl ?_
  refine c_int ?_
  refine c_newa (t := 0) (z := 112) (by decide) (by decide) (mOut_lt (ltL [o] rfl (List.forall_mem_cons.mpr ⟨by omega, (fun _ h => absurd h List.not_mem_nil)⟩)) (ltS [o] rfl (List.forall_mem_cons.mpr ⟨by omega, (fun _ h => absurd h List.not_mem_nil)⟩))) O_9 ?_
  rw [show ((112 : Int32)).toNatClampNeg = 112 by decide]
  obtain ⟨σ10, e10⟩ : ∃ x, x = mNew σ9 20 112 112 := ⟨_, rfl⟩
  rw [← e10, show σ9.2.1.length = o + 18 by omega]
  have N_10 : σ10.2.1.length = o + 19 := by rw [e10, len_new]; omega
  have T_10 : σ10.1 = σ.1 + 943 := by rw [e10]; show σ9.1 + 112 = _; omega
  have O_10 : rOK σ10 := by rw [e10]; exact rOK_new O_9
  have X_10 : Ex σ σ10 o := by rw [e10]; exact X_9.new (by omega)
  have K_0_10 : σ10.2.1[o]? = some (5, 0) := by rw [e10]; exact k_new K_0_9
  have K_1_10 : σ10.2.1[o + 1]? = some (20, 43) := by rw [e10]; exact k_new K_1_9
  have K_2_10 : σ10.2.1[o + 2]? = some (21, 0) := by rw [e10]; exact k_new K_2_9
  have K_3_10 : σ10.2.1[o + 3]? = some (4, 0) := by rw [e10]; exact k_new K_3_9
  have K_17_10 : σ10.2.1[o + 17]? = some (20, 112) := by rw [e10]; exact k_new K_17_9
  have G_0_0_10 : σ10.2.2.1 o 0 = some (o + 1) := by rw [e10]; exact g_new (by omega) G_0_0_9
  have G_0_1_10 : σ10.2.2.1 o 1 = some (o + 2) := by rw [e10]; exact g_new (by omega) G_0_1_9
  have G_0_3_10 : σ10.2.2.1 o 3 = some (o + 3) := by rw [e10]; exact g_new (by omega) G_0_3_9
  have G_0_11_10 : σ10.2.2.1 o 11 = some (o + 17) := by rw [e10]; exact g_new (by omega) G_0_11_9
  have S_0_10 : isPrg (mBo σ10) (o + 3) := by rw [e10]; exact isPrg_ext S_0_9 (fun q x h => k_new h) (fun q h1 h2 => mup_ne (by omega))
  have R_0_10 : σ10.2.2.2.1 o = fun _ => 0 := by rw [e10]; exact (mup_ne (by omega)).trans R_0_9
  have R_1_10 : σ10.2.2.2.1 (o + 1) = fun _ => 0 := by rw [e10]; exact (mup_ne (by omega)).trans R_1_9
  have R_2_10 : σ10.2.2.2.1 (o + 2) = fun _ => 0 := by rw [e10]; exact (mup_ne (by omega)).trans R_2_9
  have R_3_10 : σ10.2.2.2.1 (o + 3) = (FX4_empty (fun _ => 0) (fun _ => 0)).2.1 := by rw [e10]; exact (mup_ne (by omega)).trans R_3_9
  have R_16_10 : σ10.2.2.2.1 (o + 16) = (FX4_empty (fun _ => 0) (fun _ => 0)).2.2 := by rw [e10]; exact (mup_ne (by omega)).trans R_16_9
  have R_17_10 : σ10.2.2.2.1 (o + 17) = fun _ => 0 := by rw [e10]; exact (mup_ne (by omega)).trans R_17_9
  have K_18_10 : σ10.2.1[o + 18]? = some (20, 112) := by rw [e10, ← show σ9.2.1.length = o + 18 by omega]; exact k_newS
  have R_18_10 : σ10.2.2.2.1 (o + 18) = fun _ => 0 := by rw [e10, ← show σ9.2.1.length = o + 18 by omega]; exact mup_eq
  clear K_0_9 K_1_9 K_2_9 K_3_9 K_17_9 G_0_0_9 G_0_1_9 G_0_3_9 G_0_11_9 S_0_9 R_0_9 R_1_9 R_2_9 R_3_9 R_16_9 R_17_9 N_9 T_9 O_9 X_9 e10 σ9
  show RC _ _ _ [some (.ref o), none] [.ref (o + 18), .ref o] σ10 _
  refine c_putr K_0_10 ?_
  obtain ⟨σ11, e11⟩ : ∃ x, x = mPr σ10 o 12 (some (o + 18)) := ⟨_, rfl⟩
  rw [← e11]
  have N_11 : σ11.2.1.length = o + 19 := by rw [e11]; exact N_10
  have T_11 : σ11.1 = σ.1 + 943 := by rw [e11]; exact T_10
  have O_11 : rOK σ11 := by rw [e11]; exact rOK_pr O_10 (by omega)
  have X_11 : Ex σ σ11 o := by rw [e11]; exact X_10.pr (by omega)
  have K_0_11 : σ11.2.1[o]? = some (5, 0) := by rw [e11]; exact K_0_10
  have K_1_11 : σ11.2.1[o + 1]? = some (20, 43) := by rw [e11]; exact K_1_10
  have K_2_11 : σ11.2.1[o + 2]? = some (21, 0) := by rw [e11]; exact K_2_10
  have K_3_11 : σ11.2.1[o + 3]? = some (4, 0) := by rw [e11]; exact K_3_10
  have K_17_11 : σ11.2.1[o + 17]? = some (20, 112) := by rw [e11]; exact K_17_10
  have K_18_11 : σ11.2.1[o + 18]? = some (20, 112) := by rw [e11]; exact K_18_10
  have G_0_0_11 : σ11.2.2.1 o 0 = some (o + 1) := by rw [e11]; exact g_prK (by decide) G_0_0_10
  have G_0_1_11 : σ11.2.2.1 o 1 = some (o + 2) := by rw [e11]; exact g_prK (by decide) G_0_1_10
  have G_0_3_11 : σ11.2.2.1 o 3 = some (o + 3) := by rw [e11]; exact g_prK (by decide) G_0_3_10
  have G_0_11_11 : σ11.2.2.1 o 11 = some (o + 17) := by rw [e11]; exact g_prK (by decide) G_0_11_10
  have S_0_11 : isPrg (mBo σ11) (o + 3) := by rw [e11]; exact isPrg_ext S_0_10 (fun q x h => h) (fun q h1 h2 => mup_ne (by omega))
  have R_0_11 : σ11.2.2.2.1 o = fun _ => 0 := by rw [e11]; exact R_0_10
  have R_1_11 : σ11.2.2.2.1 (o + 1) = fun _ => 0 := by rw [e11]; exact R_1_10
  have R_2_11 : σ11.2.2.2.1 (o + 2) = fun _ => 0 := by rw [e11]; exact R_2_10
  have R_3_11 : σ11.2.2.2.1 (o + 3) = (FX4_empty (fun _ => 0) (fun _ => 0)).2.1 := by rw [e11]; exact R_3_10
  have R_16_11 : σ11.2.2.2.1 (o + 16) = (FX4_empty (fun _ => 0) (fun _ => 0)).2.2 := by rw [e11]; exact R_16_10
  have R_17_11 : σ11.2.2.2.1 (o + 17) = fun _ => 0 := by rw [e11]; exact R_17_10
  have R_18_11 : σ11.2.2.2.1 (o + 18) = fun _ => 0 := by rw [e11]; exact R_18_10
  have G_0_12_11 : σ11.2.2.1 o 12 = some (o + 18) := by rw [e11]; exact g_prS
  clear K_0_10 K_1_10 K_2_10 K_3_10 K_17_10 K_18_10 G_0_0_10 G_0_1_10 G_0_3_10 G_0_11_10 S_0_10 R_0_10 R_1_10 R_2_10 R_3_10 R_16_10 R_17_10 R_18_10 N_10 T_10 O_10 X_10 e11 σ10
  show RC _ _ _ [some (.ref o), none] [] σ11 _
  refine c_aload rfl ?_
  refine c_int ?_
  refine c_newa (t := 0) (z := 112) (by decide) (by decide) (mOut_lt (ltL [o] rfl (List.forall_mem_cons.mpr ⟨by omega, (fun _ h => absurd h List.not_mem_nil)⟩)) (ltS [o] rfl (List.forall_mem_cons.mpr ⟨by omega, (fun _ h => absurd h List.not_mem_nil)⟩))) O_11 ?_
  rw [show ((112 : Int32)).toNatClampNeg = 112 by decide]
  obtain ⟨σ12, e12⟩ : ∃ x, x = mNew σ11 20 112 112 := ⟨_, rfl⟩
  rw [← e12, show σ11.2.1.length = o + 19 by omega]
  have N_12 : σ12.2.1.length = o + 20 := by rw [e12, len_new]; omega
  have T_12 : σ12.1 = σ.1 + 1055 := by rw [e12]; show σ11.1 + 112 = _; omega
  have O_12 : rOK σ12 := by rw [e12]; exact rOK_new O_11
  have X_12 : Ex σ σ12 o := by rw [e12]; exact X_11.new (by omega)
  have K_0_12 : σ12.2.1[o]? = some (5, 0) := by rw [e12]; exact k_new K_0_11
  have K_1_12 : σ12.2.1[o + 1]? = some (20, 43) := by rw [e12]; exact k_new K_1_11
  have K_2_12 : σ12.2.1[o + 2]? = some (21, 0) := by rw [e12]; exact k_new K_2_11
  have K_3_12 : σ12.2.1[o + 3]? = some (4, 0) := by rw [e12]; exact k_new K_3_11
  have K_17_12 : σ12.2.1[o + 17]? = some (20, 112) := by rw [e12]; exact k_new K_17_11
  have K_18_12 : σ12.2.1[o + 18]? = some (20, 112) := by rw [e12]; exact k_new K_18_11
  have G_0_0_12 : σ12.2.2.1 o 0 = some (o + 1) := by rw [e12]; exact g_new (by omega) G_0_0_11
  have G_0_1_12 : σ12.2.2.1 o 1 = some (o + 2) := by rw [e12]; exact g_new (by omega) G_0_1_11
  have G_0_3_12 : σ12.2.2.1 o 3 = some (o + 3) := by rw [e12]; exact g_new (by omega) G_0_3_11
  have G_0_11_12 : σ12.2.2.1 o 11 = some (o + 17) := by rw [e12]; exact g_new (by omega) G_0_11_11
  have G_0_12_12 : σ12.2.2.1 o 12 = some (o + 18) := by rw [e12]; exact g_new (by omega) G_0_12_11
  have S_0_12 : isPrg (mBo σ12) (o + 3) := by rw [e12]; exact isPrg_ext S_0_11 (fun q x h => k_new h) (fun q h1 h2 => mup_ne (by omega))
  have R_0_12 : σ12.2.2.2.1 o = fun _ => 0 := by rw [e12]; exact (mup_ne (by omega)).trans R_0_11
  have R_1_12 : σ12.2.2.2.1 (o + 1) = fun _ => 0 := by rw [e12]; exact (mup_ne (by omega)).trans R_1_11
  have R_2_12 : σ12.2.2.2.1 (o + 2) = fun _ => 0 := by rw [e12]; exact (mup_ne (by omega)).trans R_2_11
  have R_3_12 : σ12.2.2.2.1 (o + 3) = (FX4_empty (fun _ => 0) (fun _ => 0)).2.1 := by rw [e12]; exact (mup_ne (by omega)).trans R_3_11
  have R_16_12 : σ12.2.2.2.1 (o + 16) = (FX4_empty (fun _ => 0) (fun _ => 0)).2.2 := by rw [e12]; exact (mup_ne (by omega)).trans R_16_11
  have R_17_12 : σ12.2.2.2.1 (o + 17) = fun _ => 0 := by rw [e12]; exact (mup_ne (by omega)).trans R_17_11
  have R_18_12 : σ12.2.2.2.1 (o + 18) = fun _ => 0 := by rw [e12]; exact (mup_ne (by omega)).trans R_18_11
  have K_19_12 : σ12.2.1[o + 19]? = some (20, 112) := by rw [e12, ← show σ11.2.1.length = o + 19 by omega]; exact k_newS
  have R_19_12 : σ12.2.2.2.1 (o + 19) = fun _ => 0 := by rw [e12, ← show σ11.2.1.length = o + 19 by omega]; exact mup_eq
  clear K_0_11 K_1_11 K_2_11 K_3_11 K_17_11 K_18_11 G_0_0_11 G_0_1_11 G_0_3_11 G_0_11_11 G_0_12_11 S_0_11 R_0_11 R_1_11 R_2_11 R_3_11 R_16_11 R_17_11 R_18_11 N_11 T_11 O_11 X_11 e12 σ11
  show RC _ _ _ [some (.ref o), none] [.ref (o + 19), .ref o] σ12 _
  refine c_putr K_0_12 ?_
  obtain ⟨σ13, e13⟩ : ∃ x, x = mPr σ12 o 13 (some (o + 19)) := ⟨_, rfl⟩
  rw [← e13]
  have N_13 : σ13.2.1.length = o + 20 := by rw [e13]; exact N_12
  have T_13 : σ13.1 = σ.1 + 1055 := by rw [e13]; exact T_12
  have O_13 : rOK σ13 := by rw [e13]; exact rOK_pr O_12 (by omega)
  have X_13 : Ex σ σ13 o := by rw [e13]; exact X_12.pr (by omega)
  have K_0_13 : σ13.2.1[o]? = some (5, 0) := by rw [e13]; exact K_0_12
  have K_1_13 : σ13.2.1[o + 1]? = some (20, 43) := by rw [e13]; exact K_1_12
  have K_2_13 : σ13.2.1[o + 2]? = some (21, 0) := by rw [e13]; exact K_2_12
  have K_3_13 : σ13.2.1[o + 3]? = some (4, 0) := by rw [e13]; exact K_3_12
  have K_17_13 : σ13.2.1[o + 17]? = some (20, 112) := by rw [e13]; exact K_17_12
  have K_18_13 : σ13.2.1[o + 18]? = some (20, 112) := by rw [e13]; exact K_18_12
  have K_19_13 : σ13.2.1[o + 19]? = some (20, 112) := by rw [e13]; exact K_19_12
  have G_0_0_13 : σ13.2.2.1 o 0 = some (o + 1) := by rw [e13]; exact g_prK (by decide) G_0_0_12
  have G_0_1_13 : σ13.2.2.1 o 1 = some (o + 2) := by rw [e13]; exact g_prK (by decide) G_0_1_12
  have G_0_3_13 : σ13.2.2.1 o 3 = some (o + 3) := by rw [e13]; exact g_prK (by decide) G_0_3_12
  have G_0_11_13 : σ13.2.2.1 o 11 = some (o + 17) := by rw [e13]; exact g_prK (by decide) G_0_11_12
  have G_0_12_13 : σ13.2.2.1 o 12 = some (o + 18) := by rw [e13]; exact g_prK (by decide) G_0_12_12
  have S_0_13 : isPrg (mBo σ13) (o + 3) := by rw [e13]; exact isPrg_ext S_0_12 (fun q x h => h) (fun q h1 h2 => mup_ne (by omega))
  have R_0_13 : σ13.2.2.2.1 o = fun _ => 0 := by rw [e13]; exact R_0_12
  have R_1_13 : σ13.2.2.2.1 (o + 1) = fun _ => 0 := by rw [e13]; exact R_1_12
  have R_2_13 : σ13.2.2.2.1 (o + 2) = fun _ => 0 := by rw [e13]; exact R_2_12
  have R_3_13 : σ13.2.2.2.1 (o + 3) = (FX4_empty (fun _ => 0) (fun _ => 0)).2.1 := by rw [e13]; exact R_3_12
  have R_16_13 : σ13.2.2.2.1 (o + 16) = (FX4_empty (fun _ => 0) (fun _ => 0)).2.2 := by rw [e13]; exact R_16_12
  have R_17_13 : σ13.2.2.2.1 (o + 17) = fun _ => 0 := by rw [e13]; exact R_17_12
  have R_18_13 : σ13.2.2.2.1 (o + 18) = fun _ => 0 := by rw [e13]; exact R_18_12
  have R_19_13 : σ13.2.2.2.1 (o + 19) = fun _ => 0 := by rw [e13]; exact R_19_12
  have G_0_13_13 : σ13.2.2.1 o 13 = some (o + 19) := by rw [e13]; exact g_prS
  clear K_0_12 K_1_12 K_2_12 K_3_12 K_17_12 K_18_12 K_19_12 G_0_0_12 G_0_1_12 G_0_3_12 G_0_11_12 G_0_12_12 S_0_12 R_0_12 R_1_12 R_2_12 R_3_12 R_16_12 R_17_12 R_18_12 R_19_12 N_12 T_12 O_12 X_12 e13 σ12
  show RC _ _ _ [some (.ref o), none] [] σ13 _
  have HP : isRd (mBo σ13) o := ⟨K_0_13, K_1_13, K_17_13, K_18_13, K_19_13, G_0_0_13, G_0_11_13, G_0_12_13, G_0_13_13⟩
  refine c_rest (Q := fun r τ => r = none ∧ (fun τ => Ex σ τ o ∧ τ.2.1.length = o + 1 + 19 ∧ τ.1 = σ.1 + 1055 ∧ rOK τ ∧ isRd (mBo τ) o ∧ τ.2.2.2.1 (o + 1) = (FX5_init_t (fun _ => 0)).2) τ) (by omega) ?_ (fun r τ h => h)
  have hlay := mSt_lay (σ := σ13) [(o + 1, fun _ => 0)] (List.forall_mem_cons.mpr ⟨R_1_13, (fun _ h => absurd h List.not_mem_nil)⟩)
  rw [← hlay]
  clear hlay
  exact tX5_init_t (B := mBo σ13) HP.1 HP.2.1 HP.2.2.2.2.2.1 (fun _ => 0) pNamesO ⟨rfl, X_13.lay _ (List.forall_mem_cons.mpr ⟨Or.inr (by show σ.2.1.length ≤ o + 1; omega), (fun _ h => absurd h List.not_mem_nil)⟩), by show σ13.2.1.length = _; omega, T_13, O_13, HP, mup_eq⟩
set_option maxRecDepth 20000 in
set_option maxHeartbeats 4000000 in
theorem nY1_init {d : Nat} {σ : mMH} {o : Nat} (hL : σ.2.1.length = o + 1) (hO : rOK σ) (hR : σ.2.2.2.1 o = fun _ => 0) (hK : σ.2.1[o]? = some (1, 0)) (hz : o + 210 ≤ 1000000) : CC (d + 4) 5 [.ref o] σ (fun τ => Ex σ τ o ∧ τ.2.1.length = o + 1 + 209 ∧ τ.1 = σ.1 + 4808 ∧ rOK τ ∧ isHi (mBo τ) o ∧ τ.2.2.2.1 o = (fun _ => 0) ∧ τ.2.2.2.1 (o + 6) = (upd (fun _ => 0) 0 0) ∧ τ.2.2.2.1 (o + 17) = (upd (fun _ => 0) 0 1) ∧ τ.2.2.2.1 (o + 32) = (upd (fun _ => 0) 0 0) ∧ τ.2.2.2.1 (o + 43) = (upd (fun _ => 0) 0 1) ∧ τ.2.2.2.1 (o + 58) = (upd (fun _ => 0) 0 0) ∧ τ.2.2.2.1 (o + 69) = (upd (fun _ => 0) 0 1) ∧ τ.2.2.2.1 (o + 84) = (upd (fun _ => 0) 0 0) ∧ τ.2.2.2.1 (o + 95) = (upd (fun _ => 0) 0 1) ∧ τ.2.2.2.1 (o + 110) = (upd (fun _ => 0) 0 0) ∧ τ.2.2.2.1 (o + 121) = (upd (fun _ => 0) 0 1) ∧ τ.2.2.2.1 (o + 136) = (upd (fun _ => 0) 0 0) ∧ τ.2.2.2.1 (o + 147) = (upd (fun _ => 0) 0 1) ∧ τ.2.2.2.1 (o + 162) = (upd (fun _ => 0) 0 0) ∧ τ.2.2.2.1 (o + 173) = (upd (fun _ => 0) 0 1) ∧ τ.2.2.2.1 (o + 188) = (upd (fun _ => 0) 0 0) ∧ τ.2.2.2.1 (o + 199) = (upd (fun _ => 0) 0 1)) := by
  have K_0_0 := hK
  have R_0_0 := hR
  have O_0 := hO
  have N_0 := hL
  have T_0 : σ.1 = σ.1 + 0 := rfl
  have X_0 : Ex σ σ o := Ex.rf
  refine c_begin mt_5 (by intro a ha; simp only [List.mem_cons, List.not_mem_nil, or_false] at ha; rcases ha with rfl <;> rfl) (Nat.le_of_ble_eq_true rfl) ?_
  show RC _ _ _ [some (.ref o), none] [] σ _
  refine c_aload rfl ?_
  refine c_obj (Nat.le_of_ble_eq_true rfl) ?_
  refine c_aload rfl ?_
  refine c_int ?_
  refine c_newr (t := 6) (z := 8) (by decide) (by decide) (mOut_lt (ltL [o] rfl (List.forall_mem_cons.mpr ⟨by omega, (fun _ h => absurd h List.not_mem_nil)⟩)) (ltS [o] rfl (List.forall_mem_cons.mpr ⟨by omega, (fun _ h => absurd h List.not_mem_nil)⟩))) O_0 ?_
  rw [show ((8 : Int32)).toNatClampNeg = 8 by decide]
  obtain ⟨σ1, e1⟩ : ∃ x, x = mNew σ 26 8 8 := ⟨_, rfl⟩
  rw [← e1, show σ.2.1.length = o + 1 by omega]
  have N_1 : σ1.2.1.length = o + 2 := by rw [e1, len_new]; omega
  have T_1 : σ1.1 = σ.1 + 8 := by rw [e1]; show σ.1 + 8 = _; omega
  have O_1 : rOK σ1 := by rw [e1]; exact rOK_new O_0
  have X_1 : Ex σ σ1 o := by rw [e1]; exact X_0.new (by omega)
  have K_0_1 : σ1.2.1[o]? = some (1, 0) := by rw [e1]; exact k_new K_0_0
  have R_0_1 : σ1.2.2.2.1 o = fun _ => 0 := by rw [e1]; exact (mup_ne (by omega)).trans R_0_0
  have K_1_1 : σ1.2.1[o + 1]? = some (26, 8) := by rw [e1, ← show σ.2.1.length = o + 1 by omega]; exact k_newS
  have R_1_1 : σ1.2.2.2.1 (o + 1) = fun _ => 0 := by rw [e1, ← show σ.2.1.length = o + 1 by omega]; exact mup_eq
  clear K_0_0 R_0_0 N_0 T_0 O_0 X_0 e1
  show RC _ _ _ [some (.ref o), none] [.ref (o + 1), .ref o] σ1 _
  refine c_putr K_0_1 ?_
  obtain ⟨σ2, e2⟩ : ∃ x, x = mPr σ1 o 2 (some (o + 1)) := ⟨_, rfl⟩
  rw [← e2]
  have N_2 : σ2.2.1.length = o + 2 := by rw [e2]; exact N_1
  have T_2 : σ2.1 = σ.1 + 8 := by rw [e2]; exact T_1
  have O_2 : rOK σ2 := by rw [e2]; exact rOK_pr O_1 (by omega)
  have X_2 : Ex σ σ2 o := by rw [e2]; exact X_1.pr (by omega)
  have K_0_2 : σ2.2.1[o]? = some (1, 0) := by rw [e2]; exact K_0_1
  have K_1_2 : σ2.2.1[o + 1]? = some (26, 8) := by rw [e2]; exact K_1_1
  have R_0_2 : σ2.2.2.2.1 o = fun _ => 0 := by rw [e2]; exact R_0_1
  have R_1_2 : σ2.2.2.2.1 (o + 1) = fun _ => 0 := by rw [e2]; exact R_1_1
  have G_0_2_2 : σ2.2.2.1 o 2 = some (o + 1) := by rw [e2]; exact g_prS
  clear K_0_1 K_1_1 R_0_1 R_1_1 N_1 T_1 O_1 X_1 e2 σ1
  show RC _ _ _ [some (.ref o), none] [] σ2 _
  refine c_int ?_
  refine c_istore (L' := [some (.ref o), some (.int 0)]) rfl rfl ?_
  refine c_fall ?_
  show RC _ _ _ [some (.ref o), some (.int 0)] [] σ2 _
  refine c_iload rfl ?_
  refine c_int ?_
  refine c_icmpF (show ¬ ((8 : Int32) ≤ 0) by decide) ?_
  show RC _ _ _ [some (.ref o), some (.int 0)] [] σ2 _
  refine c_aload rfl ?_
  refine c_getr (q := o + 1) K_0_2 G_0_2_2 ?_
  refine c_iload rfl ?_
  refine c_new (k := 8) (mOut_lt (ltL [o] rfl (List.forall_mem_cons.mpr ⟨by omega, (fun _ h => absurd h List.not_mem_nil)⟩)) (ltS [o + 1] rfl (List.forall_mem_cons.mpr ⟨by omega, (fun _ h => absurd h List.not_mem_nil)⟩))) O_2 ?_
  obtain ⟨σ3, e3⟩ : ∃ x, x = mNew σ2 8 0 (mFt.getD 8 []).length := ⟨_, rfl⟩
  rw [← e3, show σ2.2.1.length = o + 2 by omega]
  have N_3 : σ3.2.1.length = o + 3 := by rw [e3, len_new]; omega
  have T_3 : σ3.1 = σ.1 + 11 := by rw [e3]; show σ2.1 + 3 = _; omega
  have O_3 : rOK σ3 := by rw [e3]; exact rOK_new O_2
  have X_3 : Ex σ σ3 o := by rw [e3]; exact X_2.new (by omega)
  have K_0_3 : σ3.2.1[o]? = some (1, 0) := by rw [e3]; exact k_new K_0_2
  have K_1_3 : σ3.2.1[o + 1]? = some (26, 8) := by rw [e3]; exact k_new K_1_2
  have G_0_2_3 : σ3.2.2.1 o 2 = some (o + 1) := by rw [e3]; exact g_new (by omega) G_0_2_2
  have R_0_3 : σ3.2.2.2.1 o = fun _ => 0 := by rw [e3]; exact (mup_ne (by omega)).trans R_0_2
  have R_1_3 : σ3.2.2.2.1 (o + 1) = fun _ => 0 := by rw [e3]; exact (mup_ne (by omega)).trans R_1_2
  have K_2_3 : σ3.2.1[o + 2]? = some (8, 0) := by rw [e3, ← show σ2.2.1.length = o + 2 by omega]; exact k_newS
  have R_2_3 : σ3.2.2.2.1 (o + 2) = fun _ => 0 := by rw [e3, ← show σ2.2.1.length = o + 2 by omega]; exact mup_eq
  clear K_0_2 K_1_2 G_0_2_2 R_0_2 R_1_2 N_2 T_2 O_2 X_2 e3 σ2
  show RC _ _ _ [some (.ref o), some (.int 0)] [.ref (o + 2), .int 0, .ref (o + 1)] σ3 _
  refine c_dup rfl ?_
  refine c_call (o := o + 2) (as := []) (st := [.ref (o + 2), .int 0, .ref (o + 1)]) (rfl) rfl (Nat.le_of_ble_eq_true rfl) (Or.inr rfl) (ltL [o] rfl (List.forall_mem_cons.mpr ⟨by omega, (fun _ h => absurd h List.not_mem_nil)⟩)) (ltS [o + 2, o + 1] rfl (List.forall_mem_cons.mpr ⟨by omega, (List.forall_mem_cons.mpr ⟨by omega, (fun _ h => absurd h List.not_mem_nil)⟩)⟩)) (nY8_init (by omega) O_3 R_2_3 K_2_3 (by omega)) (fun σ4 Z_4 => ?_)
  obtain ⟨E_4, NN_4, TT_4, O_4, Y0_4, Y1_4, Y2_4, Y3_4, Y4_4⟩ := Z_4
  have N_4 : σ4.2.1.length = o + 28 := by omega
  have T_4 : σ4.1 = σ.1 + 608 := by omega
  have X_4 : Ex σ σ4 o := X_3.call E_4 (by omega)
  have K_0_4 : σ4.2.1[o]? = some (1, 0) := E_4.1 _ _ K_0_3
  have K_1_4 : σ4.2.1[o + 1]? = some (26, 8) := E_4.1 _ _ K_1_3
  have K_2_4 : σ4.2.1[o + 2]? = some (8, 0) := E_4.1 _ _ K_2_3
  have G_0_2_4 : σ4.2.2.1 o 2 = some (o + 1) := by rw [(E_4.2 _ (by omega) (by omega)).1]; exact G_0_2_3
  have R_0_4 : σ4.2.2.2.1 o = fun _ => 0 := by rw [(E_4.2 _ (by omega) (by omega)).2.1]; exact R_0_3
  have R_1_4 : σ4.2.2.2.1 (o + 1) = fun _ => 0 := by rw [(E_4.2 _ (by omega) (by omega)).2.1]; exact R_1_3
  have S_0_4 : isWorld (mBo σ4) (o + 2) := Y0_4
  have R_6_4 : σ4.2.2.2.1 (o + 6) = upd (fun _ => 0) 0 0 := Y1_4
  have R_17_4 : σ4.2.2.2.1 (o + 17) = upd (fun _ => 0) 0 1 := Y2_4
  have R_13_4 : σ4.2.2.2.1 (o + 13) = fun _ => 0 := Y3_4
  have R_24_4 : σ4.2.2.2.1 (o + 24) = fun _ => 0 := Y4_4
  clear K_0_3 K_1_3 K_2_3 G_0_2_3 R_0_3 R_1_3 R_2_3 N_3 T_3 O_3 X_3 E_4 NN_4 TT_4 Y0_4 Y1_4 Y2_4 Y3_4 Y4_4 σ3
  show RC _ _ _ [some (.ref o), some (.int 0)] [.ref (o + 2), .int 0, .ref (o + 1)] σ4 _
  refine c_ast K_1_4 (Or.inr (Or.inr rfl)) K_2_4 (lt_in 0 8 rfl rfl) ?_
  rw [show ((0 : Int32)).toNatClampNeg = 0 by decide]
  obtain ⟨σ5, e5⟩ : ∃ x, x = mPr σ4 (o + 1) 0 (some (o + 2)) := ⟨_, rfl⟩
  rw [← e5]
  have N_5 : σ5.2.1.length = o + 28 := by rw [e5]; exact N_4
  have T_5 : σ5.1 = σ.1 + 608 := by rw [e5]; exact T_4
  have O_5 : rOK σ5 := by rw [e5]; exact rOK_pr O_4 (by omega)
  have X_5 : Ex σ σ5 o := by rw [e5]; exact X_4.pr (by omega)
  have K_0_5 : σ5.2.1[o]? = some (1, 0) := by rw [e5]; exact K_0_4
  have K_1_5 : σ5.2.1[o + 1]? = some (26, 8) := by rw [e5]; exact K_1_4
  have K_2_5 : σ5.2.1[o + 2]? = some (8, 0) := by rw [e5]; exact K_2_4
  have G_0_2_5 : σ5.2.2.1 o 2 = some (o + 1) := by rw [e5]; exact g_prO (by omega) G_0_2_4
  have S_0_5 : isWorld (mBo σ5) (o + 2) := by rw [e5]; exact isWorld_ext S_0_4 (fun q x h => h) (fun q h1 h2 => mup_ne (by omega))
  have R_0_5 : σ5.2.2.2.1 o = fun _ => 0 := by rw [e5]; exact R_0_4
  have R_1_5 : σ5.2.2.2.1 (o + 1) = fun _ => 0 := by rw [e5]; exact R_1_4
  have R_6_5 : σ5.2.2.2.1 (o + 6) = upd (fun _ => 0) 0 0 := by rw [e5]; exact R_6_4
  have R_17_5 : σ5.2.2.2.1 (o + 17) = upd (fun _ => 0) 0 1 := by rw [e5]; exact R_17_4
  have R_13_5 : σ5.2.2.2.1 (o + 13) = fun _ => 0 := by rw [e5]; exact R_13_4
  have R_24_5 : σ5.2.2.2.1 (o + 24) = fun _ => 0 := by rw [e5]; exact R_24_4
  have G_1_0_5 : σ5.2.2.1 (o + 1) 0 = some (o + 2) := by rw [e5]; exact g_prS
  clear K_0_4 K_1_4 K_2_4 G_0_2_4 S_0_4 R_0_4 R_1_4 R_6_4 R_17_4 R_13_4 R_24_4 N_4 T_4 O_4 X_4 e5 σ4
  show RC _ _ _ [some (.ref o), some (.int 0)] [] σ5 _
  refine c_iinc (x := 0) (L' := [some (.ref o), some (.int 1)]) rfl rfl rfl ?_
  refine c_goto ?_
  show RC _ _ _ [some (.ref o), some (.int 1)] [] σ5 _
  refine c_iload rfl ?_
  refine c_int ?_
  refine c_icmpF (show ¬ ((8 : Int32) ≤ 1) by decide) ?_
  show RC _ _ _ [some (.ref o), some (.int 1)] [] σ5 _
  refine c_aload rfl ?_
  refine c_getr (q := o + 1) K_0_5 G_0_2_5 ?_
  refine c_iload rfl ?_
  refine c_new (k := 8) (mOut_lt (ltL [o] rfl (List.forall_mem_cons.mpr ⟨by omega, (fun _ h => absurd h List.not_mem_nil)⟩)) (ltS [o + 1] rfl (List.forall_mem_cons.mpr ⟨by omega, (fun _ h => absurd h List.not_mem_nil)⟩))) O_5 ?_
  obtain ⟨σ6, e6⟩ : ∃ x, x = mNew σ5 8 0 (mFt.getD 8 []).length := ⟨_, rfl⟩
  rw [← e6, show σ5.2.1.length = o + 28 by omega]
  have N_6 : σ6.2.1.length = o + 29 := by rw [e6, len_new]; omega
  have T_6 : σ6.1 = σ.1 + 611 := by rw [e6]; show σ5.1 + 3 = _; omega
  have O_6 : rOK σ6 := by rw [e6]; exact rOK_new O_5
  have X_6 : Ex σ σ6 o := by rw [e6]; exact X_5.new (by omega)
  have K_0_6 : σ6.2.1[o]? = some (1, 0) := by rw [e6]; exact k_new K_0_5
  have K_1_6 : σ6.2.1[o + 1]? = some (26, 8) := by rw [e6]; exact k_new K_1_5
  have K_2_6 : σ6.2.1[o + 2]? = some (8, 0) := by rw [e6]; exact k_new K_2_5
  have G_0_2_6 : σ6.2.2.1 o 2 = some (o + 1) := by rw [e6]; exact g_new (by omega) G_0_2_5
  have G_1_0_6 : σ6.2.2.1 (o + 1) 0 = some (o + 2) := by rw [e6]; exact g_new (by omega) G_1_0_5
  have S_0_6 : isWorld (mBo σ6) (o + 2) := by rw [e6]; exact isWorld_ext S_0_5 (fun q x h => k_new h) (fun q h1 h2 => mup_ne (by omega))
  have R_0_6 : σ6.2.2.2.1 o = fun _ => 0 := by rw [e6]; exact (mup_ne (by omega)).trans R_0_5
  have R_1_6 : σ6.2.2.2.1 (o + 1) = fun _ => 0 := by rw [e6]; exact (mup_ne (by omega)).trans R_1_5
  have R_6_6 : σ6.2.2.2.1 (o + 6) = upd (fun _ => 0) 0 0 := by rw [e6]; exact (mup_ne (by omega)).trans R_6_5
  have R_17_6 : σ6.2.2.2.1 (o + 17) = upd (fun _ => 0) 0 1 := by rw [e6]; exact (mup_ne (by omega)).trans R_17_5
  have R_13_6 : σ6.2.2.2.1 (o + 13) = fun _ => 0 := by rw [e6]; exact (mup_ne (by omega)).trans R_13_5
  have R_24_6 : σ6.2.2.2.1 (o + 24) = fun _ => 0 := by rw [e6]; exact (mup_ne (by omega)).trans R_24_5
  have K_28_6 : σ6.2.1[o + 28]? = some (8, 0) := by rw [e6, ← show σ5.2.1.length = o + 28 by omega]; exact k_newS
  have R_28_6 : σ6.2.2.2.1 (o + 28) = fun _ => 0 := by rw [e6, ← show σ5.2.1.length = o + 28 by omega]; exact mup_eq
  clear K_0_5 K_1_5 K_2_5 G_0_2_5 G_1_0_5 S_0_5 R_0_5 R_1_5 R_6_5 R_17_5 R_13_5 R_24_5 N_5 T_5 O_5 X_5 e6 σ5
  show RC _ _ _ [some (.ref o), some (.int 1)] [.ref (o + 28), .int 1, .ref (o + 1)] σ6 _
  refine c_dup rfl ?_
  refine c_call (o := o + 28) (as := []) (st := [.ref (o + 28), .int 1, .ref (o + 1)]) (rfl) rfl (Nat.le_of_ble_eq_true rfl) (Or.inr rfl) (ltL [o] rfl (List.forall_mem_cons.mpr ⟨by omega, (fun _ h => absurd h List.not_mem_nil)⟩)) (ltS [o + 28, o + 1] rfl (List.forall_mem_cons.mpr ⟨by omega, (List.forall_mem_cons.mpr ⟨by omega, (fun _ h => absurd h List.not_mem_nil)⟩)⟩)) (nY8_init (by omega) O_6 R_28_6 K_28_6 (by omega)) (fun σ7 Z_7 => ?_)
  obtain ⟨E_7, NN_7, TT_7, O_7, Y0_7, Y1_7, Y2_7, Y3_7, Y4_7⟩ := Z_7
  have N_7 : σ7.2.1.length = o + 54 := by omega
  have T_7 : σ7.1 = σ.1 + 1208 := by omega
  have X_7 : Ex σ σ7 o := X_6.call E_7 (by omega)
  have K_0_7 : σ7.2.1[o]? = some (1, 0) := E_7.1 _ _ K_0_6
  have K_1_7 : σ7.2.1[o + 1]? = some (26, 8) := E_7.1 _ _ K_1_6
  have K_2_7 : σ7.2.1[o + 2]? = some (8, 0) := E_7.1 _ _ K_2_6
  have K_28_7 : σ7.2.1[o + 28]? = some (8, 0) := E_7.1 _ _ K_28_6
  have G_0_2_7 : σ7.2.2.1 o 2 = some (o + 1) := by rw [(E_7.2 _ (by omega) (by omega)).1]; exact G_0_2_6
  have G_1_0_7 : σ7.2.2.1 (o + 1) 0 = some (o + 2) := by rw [(E_7.2 _ (by omega) (by omega)).1]; exact G_1_0_6
  have S_0_7 : isWorld (mBo σ7) (o + 2) := isWorld_ext S_0_6 E_7.1 (fun q h1 h2 => (E_7.2 q (by omega) (by omega)).1)
  have R_0_7 : σ7.2.2.2.1 o = fun _ => 0 := by rw [(E_7.2 _ (by omega) (by omega)).2.1]; exact R_0_6
  have R_1_7 : σ7.2.2.2.1 (o + 1) = fun _ => 0 := by rw [(E_7.2 _ (by omega) (by omega)).2.1]; exact R_1_6
  have R_6_7 : σ7.2.2.2.1 (o + 6) = upd (fun _ => 0) 0 0 := by rw [(E_7.2 _ (by omega) (by omega)).2.1]; exact R_6_6
  have R_17_7 : σ7.2.2.2.1 (o + 17) = upd (fun _ => 0) 0 1 := by rw [(E_7.2 _ (by omega) (by omega)).2.1]; exact R_17_6
  have R_13_7 : σ7.2.2.2.1 (o + 13) = fun _ => 0 := by rw [(E_7.2 _ (by omega) (by omega)).2.1]; exact R_13_6
  have R_24_7 : σ7.2.2.2.1 (o + 24) = fun _ => 0 := by rw [(E_7.2 _ (by omega) (by omega)).2.1]; exact R_24_6
  have S_1_7 : isWorld (mBo σ7) (o + 28) := Y0_7
  have R_32_7 : σ7.2.2.2.1 (o + 32) = upd (fun _ => 0) 0 0 := Y1_7
  have R_43_7 : σ7.2.2.2.1 (o + 43) = upd (fun _ => 0) 0 1 := Y2_7
  have R_39_7 : σ7.2.2.2.1 (o + 39) = fun _ => 0 := Y3_7
  have R_50_7 : σ7.2.2.2.1 (o + 50) = fun _ => 0 := Y4_7
  clear K_0_6 K_1_6 K_2_6 K_28_6 G_0_2_6 G_1_0_6 S_0_6 R_0_6 R_1_6 R_6_6 R_17_6 R_13_6 R_24_6 R_28_6 N_6 T_6 O_6 X_6 E_7 NN_7 TT_7 Y0_7 Y1_7 Y2_7 Y3_7 Y4_7 σ6
  show RC _ _ _ [some (.ref o), some (.int 1)] [.ref (o + 28), .int 1, .ref (o + 1)] σ7 _
  refine c_ast K_1_7 (Or.inr (Or.inr rfl)) K_28_7 (lt_in 1 8 rfl rfl) ?_
  rw [show ((1 : Int32)).toNatClampNeg = 1 by decide]
  obtain ⟨σ8, e8⟩ : ∃ x, x = mPr σ7 (o + 1) 1 (some (o + 28)) := ⟨_, rfl⟩
  rw [← e8]
  have N_8 : σ8.2.1.length = o + 54 := by rw [e8]; exact N_7
  have T_8 : σ8.1 = σ.1 + 1208 := by rw [e8]; exact T_7
  have O_8 : rOK σ8 := by rw [e8]; exact rOK_pr O_7 (by omega)
  have X_8 : Ex σ σ8 o := by rw [e8]; exact X_7.pr (by omega)
  have K_0_8 : σ8.2.1[o]? = some (1, 0) := by rw [e8]; exact K_0_7
  have K_1_8 : σ8.2.1[o + 1]? = some (26, 8) := by rw [e8]; exact K_1_7
  have K_2_8 : σ8.2.1[o + 2]? = some (8, 0) := by rw [e8]; exact K_2_7
  have K_28_8 : σ8.2.1[o + 28]? = some (8, 0) := by rw [e8]; exact K_28_7
  have G_0_2_8 : σ8.2.2.1 o 2 = some (o + 1) := by rw [e8]; exact g_prO (by omega) G_0_2_7
  have G_1_0_8 : σ8.2.2.1 (o + 1) 0 = some (o + 2) := by rw [e8]; exact g_prK (by decide) G_1_0_7
  have S_0_8 : isWorld (mBo σ8) (o + 2) := by rw [e8]; exact isWorld_ext S_0_7 (fun q x h => h) (fun q h1 h2 => mup_ne (by omega))
  have S_1_8 : isWorld (mBo σ8) (o + 28) := by rw [e8]; exact isWorld_ext S_1_7 (fun q x h => h) (fun q h1 h2 => mup_ne (by omega))
  have R_0_8 : σ8.2.2.2.1 o = fun _ => 0 := by rw [e8]; exact R_0_7
  have R_1_8 : σ8.2.2.2.1 (o + 1) = fun _ => 0 := by rw [e8]; exact R_1_7
  have R_6_8 : σ8.2.2.2.1 (o + 6) = upd (fun _ => 0) 0 0 := by rw [e8]; exact R_6_7
  have R_17_8 : σ8.2.2.2.1 (o + 17) = upd (fun _ => 0) 0 1 := by rw [e8]; exact R_17_7
  have R_13_8 : σ8.2.2.2.1 (o + 13) = fun _ => 0 := by rw [e8]; exact R_13_7
  have R_24_8 : σ8.2.2.2.1 (o + 24) = fun _ => 0 := by rw [e8]; exact R_24_7
  have R_32_8 : σ8.2.2.2.1 (o + 32) = upd (fun _ => 0) 0 0 := by rw [e8]; exact R_32_7
  have R_43_8 : σ8.2.2.2.1 (o + 43) = upd (fun _ => 0) 0 1 := by rw [e8]; exact R_43_7
  have R_39_8 : σ8.2.2.2.1 (o + 39) = fun _ => 0 := by rw [e8]; exact R_39_7
  have R_50_8 : σ8.2.2.2.1 (o + 50) = fun _ => 0 := by rw [e8]; exact R_50_7
  have G_1_1_8 : σ8.2.2.1 (o + 1) 1 = some (o + 28) := by rw [e8]; exact g_prS
  clear K_0_7 K_1_7 K_2_7 K_28_7 G_0_2_7 G_1_0_7 S_0_7 S_1_7 R_0_7 R_1_7 R_6_7 R_17_7 R_13_7 R_24_7 R_32_7 R_43_7 R_39_7 R_50_7 N_7 T_7 O_7 X_7 e8 σ7
  show RC _ _ _ [some (.ref o), some (.int 1)] [] σ8 _
  refine c_iinc (x := 1) (L' := [some (.ref o), some (.int 2)]) rfl rfl rfl ?_
  refine c_goto ?_
  show RC _ _ _ [some (.ref o), some (.int 2)] [] σ8 _
  refine c_iload rfl ?_
  refine c_int ?_
  refine c_icmpF (show ¬ ((8 : Int32) ≤ 2) by decide) ?_
  show RC _ _ _ [some (.ref o), some (.int 2)] [] σ8 _
  refine c_aload rfl ?_
  refine c_getr (q := o + 1) K_0_8 G_0_2_8 ?_
  refine c_iload rfl ?_
  refine c_new (k := 8) (mOut_lt (ltL [o] rfl (List.forall_mem_cons.mpr ⟨by omega, (fun _ h => absurd h List.not_mem_nil)⟩)) (ltS [o + 1] rfl (List.forall_mem_cons.mpr ⟨by omega, (fun _ h => absurd h List.not_mem_nil)⟩))) O_8 ?_
  obtain ⟨σ9, e9⟩ : ∃ x, x = mNew σ8 8 0 (mFt.getD 8 []).length := ⟨_, rfl⟩
  rw [← e9, show σ8.2.1.length = o + 54 by omega]
  have N_9 : σ9.2.1.length = o + 55 := by rw [e9, len_new]; omega
  have T_9 : σ9.1 = σ.1 + 1211 := by rw [e9]; show σ8.1 + 3 = _; omega
  have O_9 : rOK σ9 := by rw [e9]; exact rOK_new O_8
  have X_9 : Ex σ σ9 o := by rw [e9]; exact X_8.new (by omega)
  have K_0_9 : σ9.2.1[o]? = some (1, 0) := by rw [e9]; exact k_new K_0_8
  have K_1_9 : σ9.2.1[o + 1]? = some (26, 8) := by rw [e9]; exact k_new K_1_8
  have K_2_9 : σ9.2.1[o + 2]? = some (8, 0) := by rw [e9]; exact k_new K_2_8
  have K_28_9 : σ9.2.1[o + 28]? = some (8, 0) := by rw [e9]; exact k_new K_28_8
  have G_0_2_9 : σ9.2.2.1 o 2 = some (o + 1) := by rw [e9]; exact g_new (by omega) G_0_2_8
  have G_1_0_9 : σ9.2.2.1 (o + 1) 0 = some (o + 2) := by rw [e9]; exact g_new (by omega) G_1_0_8
  have G_1_1_9 : σ9.2.2.1 (o + 1) 1 = some (o + 28) := by rw [e9]; exact g_new (by omega) G_1_1_8
  have S_0_9 : isWorld (mBo σ9) (o + 2) := by rw [e9]; exact isWorld_ext S_0_8 (fun q x h => k_new h) (fun q h1 h2 => mup_ne (by omega))
  have S_1_9 : isWorld (mBo σ9) (o + 28) := by rw [e9]; exact isWorld_ext S_1_8 (fun q x h => k_new h) (fun q h1 h2 => mup_ne (by omega))
  have R_0_9 : σ9.2.2.2.1 o = fun _ => 0 := by rw [e9]; exact (mup_ne (by omega)).trans R_0_8
  have R_1_9 : σ9.2.2.2.1 (o + 1) = fun _ => 0 := by rw [e9]; exact (mup_ne (by omega)).trans R_1_8
  have R_6_9 : σ9.2.2.2.1 (o + 6) = upd (fun _ => 0) 0 0 := by rw [e9]; exact (mup_ne (by omega)).trans R_6_8
  have R_17_9 : σ9.2.2.2.1 (o + 17) = upd (fun _ => 0) 0 1 := by rw [e9]; exact (mup_ne (by omega)).trans R_17_8
  have R_13_9 : σ9.2.2.2.1 (o + 13) = fun _ => 0 := by rw [e9]; exact (mup_ne (by omega)).trans R_13_8
  have R_24_9 : σ9.2.2.2.1 (o + 24) = fun _ => 0 := by rw [e9]; exact (mup_ne (by omega)).trans R_24_8
  have R_32_9 : σ9.2.2.2.1 (o + 32) = upd (fun _ => 0) 0 0 := by rw [e9]; exact (mup_ne (by omega)).trans R_32_8
  have R_43_9 : σ9.2.2.2.1 (o + 43) = upd (fun _ => 0) 0 1 := by rw [e9]; exact (mup_ne (by omega)).trans R_43_8
  have R_39_9 : σ9.2.2.2.1 (o + 39) = fun _ => 0 := by rw [e9]; exact (mup_ne (by omega)).trans R_39_8
  have R_50_9 : σ9.2.2.2.1 (o + 50) = fun _ => 0 := by rw [e9]; exact (mup_ne (by omega)).trans R_50_8
  have K_54_9 : σ9.2.1[o + 54]? = some (8, 0) := by rw [e9, ← show σ8.2.1.length = o + 54 by omega]; exact k_newS
  have R_54_9 : σ9.2.2.2.1 (o + 54) = fun _ => 0 := by rw [e9, ← show σ8.2.1.length = o + 54 by omega]; exact mup_eq
  clear K_0_8 K_1_8 K_2_8 K_28_8 G_0_2_8 G_1_0_8 G_1_1_8 S_0_8 S_1_8 R_0_8 R_1_8 R_6_8 R_17_8 R_13_8 R_24_8 R_32_8 R_43_8 R_39_8 R_50_8 N_8 T_8 O_8 X_8 e9 σ8
  show RC _ _ _ [some (.ref o), some (.int 2)] [.ref (o + 54), .int 2, .ref (o + 1)] σ9 _
  refine c_dup rfl ?_
  refine c_call (o := o + 54) (as := []) (st := [.ref (o + 54), .int 2, .ref (o + 1)]) (rfl) rfl (Nat.le_of_ble_eq_true rfl) (Or.inr rfl) (ltL [o] rfl (List.forall_mem_cons.mpr ⟨by omega, (fun _ h => absurd h List.not_mem_nil)⟩)) (ltS [o + 54, o + 1] rfl (List.forall_mem_cons.mpr ⟨by omega, (List.forall_mem_cons.mpr ⟨by omega, (fun _ h => absurd h List.not_mem_nil)⟩)⟩)) (nY8_init (by omega) O_9 R_54_9 K_54_9 (by omega)) (fun σ10 Z_10 => ?_)
  obtain ⟨E_10, NN_10, TT_10, O_10, Y0_10, Y1_10, Y2_10, Y3_10, Y4_10⟩ := Z_10
  have N_10 : σ10.2.1.length = o + 80 := by omega
  have T_10 : σ10.1 = σ.1 + 1808 := by omega
  have X_10 : Ex σ σ10 o := X_9.call E_10 (by omega)
  have K_0_10 : σ10.2.1[o]? = some (1, 0) := E_10.1 _ _ K_0_9
  have K_1_10 : σ10.2.1[o + 1]? = some (26, 8) := E_10.1 _ _ K_1_9
  have K_2_10 : σ10.2.1[o + 2]? = some (8, 0) := E_10.1 _ _ K_2_9
  have K_28_10 : σ10.2.1[o + 28]? = some (8, 0) := E_10.1 _ _ K_28_9
  have K_54_10 : σ10.2.1[o + 54]? = some (8, 0) := E_10.1 _ _ K_54_9
  have G_0_2_10 : σ10.2.2.1 o 2 = some (o + 1) := by rw [(E_10.2 _ (by omega) (by omega)).1]; exact G_0_2_9
  have G_1_0_10 : σ10.2.2.1 (o + 1) 0 = some (o + 2) := by rw [(E_10.2 _ (by omega) (by omega)).1]; exact G_1_0_9
  have G_1_1_10 : σ10.2.2.1 (o + 1) 1 = some (o + 28) := by rw [(E_10.2 _ (by omega) (by omega)).1]; exact G_1_1_9
  have S_0_10 : isWorld (mBo σ10) (o + 2) := isWorld_ext S_0_9 E_10.1 (fun q h1 h2 => (E_10.2 q (by omega) (by omega)).1)
  have S_1_10 : isWorld (mBo σ10) (o + 28) := isWorld_ext S_1_9 E_10.1 (fun q h1 h2 => (E_10.2 q (by omega) (by omega)).1)
  have R_0_10 : σ10.2.2.2.1 o = fun _ => 0 := by rw [(E_10.2 _ (by omega) (by omega)).2.1]; exact R_0_9
  have R_1_10 : σ10.2.2.2.1 (o + 1) = fun _ => 0 := by rw [(E_10.2 _ (by omega) (by omega)).2.1]; exact R_1_9
  have R_6_10 : σ10.2.2.2.1 (o + 6) = upd (fun _ => 0) 0 0 := by rw [(E_10.2 _ (by omega) (by omega)).2.1]; exact R_6_9
  have R_17_10 : σ10.2.2.2.1 (o + 17) = upd (fun _ => 0) 0 1 := by rw [(E_10.2 _ (by omega) (by omega)).2.1]; exact R_17_9
  have R_13_10 : σ10.2.2.2.1 (o + 13) = fun _ => 0 := by rw [(E_10.2 _ (by omega) (by omega)).2.1]; exact R_13_9
  have R_24_10 : σ10.2.2.2.1 (o + 24) = fun _ => 0 := by rw [(E_10.2 _ (by omega) (by omega)).2.1]; exact R_24_9
  have R_32_10 : σ10.2.2.2.1 (o + 32) = upd (fun _ => 0) 0 0 := by rw [(E_10.2 _ (by omega) (by omega)).2.1]; exact R_32_9
  have R_43_10 : σ10.2.2.2.1 (o + 43) = upd (fun _ => 0) 0 1 := by rw [(E_10.2 _ (by omega) (by omega)).2.1]; exact R_43_9
  have R_39_10 : σ10.2.2.2.1 (o + 39) = fun _ => 0 := by rw [(E_10.2 _ (by omega) (by omega)).2.1]; exact R_39_9
  have R_50_10 : σ10.2.2.2.1 (o + 50) = fun _ => 0 := by rw [(E_10.2 _ (by omega) (by omega)).2.1]; exact R_50_9
  have S_2_10 : isWorld (mBo σ10) (o + 54) := Y0_10
  have R_58_10 : σ10.2.2.2.1 (o + 58) = upd (fun _ => 0) 0 0 := Y1_10
  have R_69_10 : σ10.2.2.2.1 (o + 69) = upd (fun _ => 0) 0 1 := Y2_10
  have R_65_10 : σ10.2.2.2.1 (o + 65) = fun _ => 0 := Y3_10
  have R_76_10 : σ10.2.2.2.1 (o + 76) = fun _ => 0 := Y4_10
  clear K_0_9 K_1_9 K_2_9 K_28_9 K_54_9 G_0_2_9 G_1_0_9 G_1_1_9 S_0_9 S_1_9 R_0_9 R_1_9 R_6_9 R_17_9 R_13_9 R_24_9 R_32_9 R_43_9 R_39_9 R_50_9 R_54_9 N_9 T_9 O_9 X_9 E_10 NN_10 TT_10 Y0_10 Y1_10 Y2_10 Y3_10 Y4_10 σ9
  show RC _ _ _ [some (.ref o), some (.int 2)] [.ref (o + 54), .int 2, .ref (o + 1)] σ10 _
  refine c_ast K_1_10 (Or.inr (Or.inr rfl)) K_54_10 (lt_in 2 8 rfl rfl) ?_
  rw [show ((2 : Int32)).toNatClampNeg = 2 by decide]
  obtain ⟨σ11, e11⟩ : ∃ x, x = mPr σ10 (o + 1) 2 (some (o + 54)) := ⟨_, rfl⟩
  rw [← e11]
  have N_11 : σ11.2.1.length = o + 80 := by rw [e11]; exact N_10
  have T_11 : σ11.1 = σ.1 + 1808 := by rw [e11]; exact T_10
  have O_11 : rOK σ11 := by rw [e11]; exact rOK_pr O_10 (by omega)
  have X_11 : Ex σ σ11 o := by rw [e11]; exact X_10.pr (by omega)
  have K_0_11 : σ11.2.1[o]? = some (1, 0) := by rw [e11]; exact K_0_10
  have K_1_11 : σ11.2.1[o + 1]? = some (26, 8) := by rw [e11]; exact K_1_10
  have K_2_11 : σ11.2.1[o + 2]? = some (8, 0) := by rw [e11]; exact K_2_10
  have K_28_11 : σ11.2.1[o + 28]? = some (8, 0) := by rw [e11]; exact K_28_10
  have K_54_11 : σ11.2.1[o + 54]? = some (8, 0) := by rw [e11]; exact K_54_10
  have G_0_2_11 : σ11.2.2.1 o 2 = some (o + 1) := by rw [e11]; exact g_prO (by omega) G_0_2_10
  have G_1_0_11 : σ11.2.2.1 (o + 1) 0 = some (o + 2) := by rw [e11]; exact g_prK (by decide) G_1_0_10
  have G_1_1_11 : σ11.2.2.1 (o + 1) 1 = some (o + 28) := by rw [e11]; exact g_prK (by decide) G_1_1_10
  have S_0_11 : isWorld (mBo σ11) (o + 2) := by rw [e11]; exact isWorld_ext S_0_10 (fun q x h => h) (fun q h1 h2 => mup_ne (by omega))
  have S_1_11 : isWorld (mBo σ11) (o + 28) := by rw [e11]; exact isWorld_ext S_1_10 (fun q x h => h) (fun q h1 h2 => mup_ne (by omega))
  have S_2_11 : isWorld (mBo σ11) (o + 54) := by rw [e11]; exact isWorld_ext S_2_10 (fun q x h => h) (fun q h1 h2 => mup_ne (by omega))
  have R_0_11 : σ11.2.2.2.1 o = fun _ => 0 := by rw [e11]; exact R_0_10
  have R_1_11 : σ11.2.2.2.1 (o + 1) = fun _ => 0 := by rw [e11]; exact R_1_10
  have R_6_11 : σ11.2.2.2.1 (o + 6) = upd (fun _ => 0) 0 0 := by rw [e11]; exact R_6_10
  have R_17_11 : σ11.2.2.2.1 (o + 17) = upd (fun _ => 0) 0 1 := by rw [e11]; exact R_17_10
  have R_13_11 : σ11.2.2.2.1 (o + 13) = fun _ => 0 := by rw [e11]; exact R_13_10
  have R_24_11 : σ11.2.2.2.1 (o + 24) = fun _ => 0 := by rw [e11]; exact R_24_10
  have R_32_11 : σ11.2.2.2.1 (o + 32) = upd (fun _ => 0) 0 0 := by rw [e11]; exact R_32_10
  have R_43_11 : σ11.2.2.2.1 (o + 43) = upd (fun _ => 0) 0 1 := by rw [e11]; exact R_43_10
  have R_39_11 : σ11.2.2.2.1 (o + 39) = fun _ => 0 := by rw [e11]; exact R_39_10
  have R_50_11 : σ11.2.2.2.1 (o + 50) = fun _ => 0 := by rw [e11]; exact R_50_10
  have R_58_11 : σ11.2.2.2.1 (o + 58) = upd (fun _ => 0) 0 0 := by rw [e11]; exact R_58_10
  have R_69_11 : σ11.2.2.2.1 (o + 69) = upd (fun _ => 0) 0 1 := by rw [e11]; exact R_69_10
  have R_65_11 : σ11.2.2.2.1 (o + 65) = fun _ => 0 := by rw [e11]; exact R_65_10
  have R_76_11 : σ11.2.2.2.1 (o + 76) = fun _ => 0 := by rw [e11]; exact R_76_10
  have G_1_2_11 : σ11.2.2.1 (o + 1) 2 = some (o + 54) := by rw [e11]; exact g_prS
  clear K_0_10 K_1_10 K_2_10 K_28_10 K_54_10 G_0_2_10 G_1_0_10 G_1_1_10 S_0_10 S_1_10 S_2_10 R_0_10 R_1_10 R_6_10 R_17_10 R_13_10 R_24_10 R_32_10 R_43_10 R_39_10 R_50_10 R_58_10 R_69_10 R_65_10 R_76_10 N_10 T_10 O_10 X_10 e11 σ10
  show RC _ _ _ [some (.ref o), some (.int 2)] [] σ11 _
  refine c_iinc (x := 2) (L' := [some (.ref o), some (.int 3)]) rfl rfl rfl ?_
  refine c_goto ?_
  show RC _ _ _ [some (.ref o), some (.int 3)] [] σ11 _
  refine c_iload rfl ?_
  refine c_int ?_
  refine c_icmpF (show ¬ ((8 : Int32) ≤ 3) by decide) ?_
  show RC _ _ _ [some (.ref o), some (.int 3)] [] σ11 _
  refine c_aload rfl ?_
  refine c_getr (q := o + 1) K_0_11 G_0_2_11 ?_
  refine c_iload rfl ?_
  refine c_new (k := 8) (mOut_lt (ltL [o] rfl (List.forall_mem_cons.mpr ⟨by omega, (fun _ h => absurd h List.not_mem_nil)⟩)) (ltS [o + 1] rfl (List.forall_mem_cons.mpr ⟨by omega, (fun _ h => absurd h List.not_mem_nil)⟩))) O_11 ?_
  obtain ⟨σ12, e12⟩ : ∃ x, x = mNew σ11 8 0 (mFt.getD 8 []).length := ⟨_, rfl⟩
  rw [← e12, show σ11.2.1.length = o + 80 by omega]
  have N_12 : σ12.2.1.length = o + 81 := by rw [e12, len_new]; omega
  have T_12 : σ12.1 = σ.1 + 1811 := by rw [e12]; show σ11.1 + 3 = _; omega
  have O_12 : rOK σ12 := by rw [e12]; exact rOK_new O_11
  have X_12 : Ex σ σ12 o := by rw [e12]; exact X_11.new (by omega)
  have K_0_12 : σ12.2.1[o]? = some (1, 0) := by rw [e12]; exact k_new K_0_11
  have K_1_12 : σ12.2.1[o + 1]? = some (26, 8) := by rw [e12]; exact k_new K_1_11
  have K_2_12 : σ12.2.1[o + 2]? = some (8, 0) := by rw [e12]; exact k_new K_2_11
  have K_28_12 : σ12.2.1[o + 28]? = some (8, 0) := by rw [e12]; exact k_new K_28_11
  have K_54_12 : σ12.2.1[o + 54]? = some (8, 0) := by rw [e12]; exact k_new K_54_11
  have G_0_2_12 : σ12.2.2.1 o 2 = some (o + 1) := by rw [e12]; exact g_new (by omega) G_0_2_11
  have G_1_0_12 : σ12.2.2.1 (o + 1) 0 = some (o + 2) := by rw [e12]; exact g_new (by omega) G_1_0_11
  have G_1_1_12 : σ12.2.2.1 (o + 1) 1 = some (o + 28) := by rw [e12]; exact g_new (by omega) G_1_1_11
  have G_1_2_12 : σ12.2.2.1 (o + 1) 2 = some (o + 54) := by rw [e12]; exact g_new (by omega) G_1_2_11
  have S_0_12 : isWorld (mBo σ12) (o + 2) := by rw [e12]; exact isWorld_ext S_0_11 (fun q x h => k_new h) (fun q h1 h2 => mup_ne (by omega))
  have S_1_12 : isWorld (mBo σ12) (o + 28) := by rw [e12]; exact isWorld_ext S_1_11 (fun q x h => k_new h) (fun q h1 h2 => mup_ne (by omega))
  have S_2_12 : isWorld (mBo σ12) (o + 54) := by rw [e12]; exact isWorld_ext S_2_11 (fun q x h => k_new h) (fun q h1 h2 => mup_ne (by omega))
  have R_0_12 : σ12.2.2.2.1 o = fun _ => 0 := by rw [e12]; exact (mup_ne (by omega)).trans R_0_11
  have R_1_12 : σ12.2.2.2.1 (o + 1) = fun _ => 0 := by rw [e12]; exact (mup_ne (by omega)).trans R_1_11
  have R_6_12 : σ12.2.2.2.1 (o + 6) = upd (fun _ => 0) 0 0 := by rw [e12]; exact (mup_ne (by omega)).trans R_6_11
  have R_17_12 : σ12.2.2.2.1 (o + 17) = upd (fun _ => 0) 0 1 := by rw [e12]; exact (mup_ne (by omega)).trans R_17_11
  have R_13_12 : σ12.2.2.2.1 (o + 13) = fun _ => 0 := by rw [e12]; exact (mup_ne (by omega)).trans R_13_11
  have R_24_12 : σ12.2.2.2.1 (o + 24) = fun _ => 0 := by rw [e12]; exact (mup_ne (by omega)).trans R_24_11
  have R_32_12 : σ12.2.2.2.1 (o + 32) = upd (fun _ => 0) 0 0 := by rw [e12]; exact (mup_ne (by omega)).trans R_32_11
  have R_43_12 : σ12.2.2.2.1 (o + 43) = upd (fun _ => 0) 0 1 := by rw [e12]; exact (mup_ne (by omega)).trans R_43_11
  have R_39_12 : σ12.2.2.2.1 (o + 39) = fun _ => 0 := by rw [e12]; exact (mup_ne (by omega)).trans R_39_11
  have R_50_12 : σ12.2.2.2.1 (o + 50) = fun _ => 0 := by rw [e12]; exact (mup_ne (by omega)).trans R_50_11
  have R_58_12 : σ12.2.2.2.1 (o + 58) = upd (fun _ => 0) 0 0 := by rw [e12]; exact (mup_ne (by omega)).trans R_58_11
  have R_69_12 : σ12.2.2.2.1 (o + 69) = upd (fun _ => 0) 0 1 := by rw [e12]; exact (mup_ne (by omega)).trans R_69_11
  have R_65_12 : σ12.2.2.2.1 (o + 65) = fun _ => 0 := by rw [e12]; exact (mup_ne (by omega)).trans R_65_11
  have R_76_12 : σ12.2.2.2.1 (o + 76) = fun _ => 0 := by rw [e12]; exact (mup_ne (by omega)).trans R_76_11
  have K_80_12 : σ12.2.1[o + 80]? = some (8, 0) := by rw [e12, ← show σ11.2.1.length = o + 80 by omega]; exact k_newS
  have R_80_12 : σ12.2.2.2.1 (o + 80) = fun _ => 0 := by rw [e12, ← show σ11.2.1.length = o + 80 by omega]; exact mup_eq
  clear K_0_11 K_1_11 K_2_11 K_28_11 K_54_11 G_0_2_11 G_1_0_11 G_1_1_11 G_1_2_11 S_0_11 S_1_11 S_2_11 R_0_11 R_1_11 R_6_11 R_17_11 R_13_11 R_24_11 R_32_11 R_43_11 R_39_11 R_50_11 R_58_11 R_69_11 R_65_11 R_76_11 N_11 T_11 O_11 X_11 e12 σ11
  show RC _ _ _ [some (.ref o), some (.int 3)] [.ref (o + 80), .int 3, .ref (o + 1)] σ12 _
  refine c_dup rfl ?_
  refine c_call (o := o + 80) (as := []) (st := [.ref (o + 80), .int 3, .ref (o + 1)]) (rfl) rfl (Nat.le_of_ble_eq_true rfl) (Or.inr rfl) (ltL [o] rfl (List.forall_mem_cons.mpr ⟨by omega, (fun _ h => absurd h List.not_mem_nil)⟩)) (ltS [o + 80, o + 1] rfl (List.forall_mem_cons.mpr ⟨by omega, (List.forall_mem_cons.mpr ⟨by omega, (fun _ h => absurd h List.not_mem_nil)⟩)⟩)) (nY8_init (by omega) O_12 R_80_12 K_80_12 (by omega)) (fun σ13 Z_13 => ?_)
  obtain ⟨E_13, NN_13, TT_13, O_13, Y0_13, Y1_13, Y2_13, Y3_13, Y4_13⟩ := Z_13
  have N_13 : σ13.2.1.length = o + 106 := by omega
  have T_13 : σ13.1 = σ.1 + 2408 := by omega
  have X_13 : Ex σ σ13 o := X_12.call E_13 (by omega)
  have K_0_13 : σ13.2.1[o]? = some (1, 0) := E_13.1 _ _ K_0_12
  have K_1_13 : σ13.2.1[o + 1]? = some (26, 8) := E_13.1 _ _ K_1_12
  have K_2_13 : σ13.2.1[o + 2]? = some (8, 0) := E_13.1 _ _ K_2_12
  have K_28_13 : σ13.2.1[o + 28]? = some (8, 0) := E_13.1 _ _ K_28_12
  have K_54_13 : σ13.2.1[o + 54]? = some (8, 0) := E_13.1 _ _ K_54_12
  have K_80_13 : σ13.2.1[o + 80]? = some (8, 0) := E_13.1 _ _ K_80_12
  have G_0_2_13 : σ13.2.2.1 o 2 = some (o + 1) := by rw [(E_13.2 _ (by omega) (by omega)).1]; exact G_0_2_12
  have G_1_0_13 : σ13.2.2.1 (o + 1) 0 = some (o + 2) := by rw [(E_13.2 _ (by omega) (by omega)).1]; exact G_1_0_12
  have G_1_1_13 : σ13.2.2.1 (o + 1) 1 = some (o + 28) := by rw [(E_13.2 _ (by omega) (by omega)).1]; exact G_1_1_12
  have G_1_2_13 : σ13.2.2.1 (o + 1) 2 = some (o + 54) := by rw [(E_13.2 _ (by omega) (by omega)).1]; exact G_1_2_12
  have S_0_13 : isWorld (mBo σ13) (o + 2) := isWorld_ext S_0_12 E_13.1 (fun q h1 h2 => (E_13.2 q (by omega) (by omega)).1)
  have S_1_13 : isWorld (mBo σ13) (o + 28) := isWorld_ext S_1_12 E_13.1 (fun q h1 h2 => (E_13.2 q (by omega) (by omega)).1)
  have S_2_13 : isWorld (mBo σ13) (o + 54) := isWorld_ext S_2_12 E_13.1 (fun q h1 h2 => (E_13.2 q (by omega) (by omega)).1)
  have R_0_13 : σ13.2.2.2.1 o = fun _ => 0 := by rw [(E_13.2 _ (by omega) (by omega)).2.1]; exact R_0_12
  have R_1_13 : σ13.2.2.2.1 (o + 1) = fun _ => 0 := by rw [(E_13.2 _ (by omega) (by omega)).2.1]; exact R_1_12
  have R_6_13 : σ13.2.2.2.1 (o + 6) = upd (fun _ => 0) 0 0 := by rw [(E_13.2 _ (by omega) (by omega)).2.1]; exact R_6_12
  have R_17_13 : σ13.2.2.2.1 (o + 17) = upd (fun _ => 0) 0 1 := by rw [(E_13.2 _ (by omega) (by omega)).2.1]; exact R_17_12
  have R_13_13 : σ13.2.2.2.1 (o + 13) = fun _ => 0 := by rw [(E_13.2 _ (by omega) (by omega)).2.1]; exact R_13_12
  have R_24_13 : σ13.2.2.2.1 (o + 24) = fun _ => 0 := by rw [(E_13.2 _ (by omega) (by omega)).2.1]; exact R_24_12
  have R_32_13 : σ13.2.2.2.1 (o + 32) = upd (fun _ => 0) 0 0 := by rw [(E_13.2 _ (by omega) (by omega)).2.1]; exact R_32_12
  have R_43_13 : σ13.2.2.2.1 (o + 43) = upd (fun _ => 0) 0 1 := by rw [(E_13.2 _ (by omega) (by omega)).2.1]; exact R_43_12
  have R_39_13 : σ13.2.2.2.1 (o + 39) = fun _ => 0 := by rw [(E_13.2 _ (by omega) (by omega)).2.1]; exact R_39_12
  have R_50_13 : σ13.2.2.2.1 (o + 50) = fun _ => 0 := by rw [(E_13.2 _ (by omega) (by omega)).2.1]; exact R_50_12
  have R_58_13 : σ13.2.2.2.1 (o + 58) = upd (fun _ => 0) 0 0 := by rw [(E_13.2 _ (by omega) (by omega)).2.1]; exact R_58_12
  have R_69_13 : σ13.2.2.2.1 (o + 69) = upd (fun _ => 0) 0 1 := by rw [(E_13.2 _ (by omega) (by omega)).2.1]; exact R_69_12
  have R_65_13 : σ13.2.2.2.1 (o + 65) = fun _ => 0 := by rw [(E_13.2 _ (by omega) (by omega)).2.1]; exact R_65_12
  have R_76_13 : σ13.2.2.2.1 (o + 76) = fun _ => 0 := by rw [(E_13.2 _ (by omega) (by omega)).2.1]; exact R_76_12
  have S_3_13 : isWorld (mBo σ13) (o + 80) := Y0_13
  have R_84_13 : σ13.2.2.2.1 (o + 84) = upd (fun _ => 0) 0 0 := Y1_13
  have R_95_13 : σ13.2.2.2.1 (o + 95) = upd (fun _ => 0) 0 1 := Y2_13
  have R_91_13 : σ13.2.2.2.1 (o + 91) = fun _ => 0 := Y3_13
  have R_102_13 : σ13.2.2.2.1 (o + 102) = fun _ => 0 := Y4_13
  clear K_0_12 K_1_12 K_2_12 K_28_12 K_54_12 K_80_12 G_0_2_12 G_1_0_12 G_1_1_12 G_1_2_12 S_0_12 S_1_12 S_2_12 R_0_12 R_1_12 R_6_12 R_17_12 R_13_12 R_24_12 R_32_12 R_43_12 R_39_12 R_50_12 R_58_12 R_69_12 R_65_12 R_76_12 R_80_12 N_12 T_12 O_12 X_12 E_13 NN_13 TT_13 Y0_13 Y1_13 Y2_13 Y3_13 Y4_13 σ12
  show RC _ _ _ [some (.ref o), some (.int 3)] [.ref (o + 80), .int 3, .ref (o + 1)] σ13 _
  refine c_ast K_1_13 (Or.inr (Or.inr rfl)) K_80_13 (lt_in 3 8 rfl rfl) ?_
  rw [show ((3 : Int32)).toNatClampNeg = 3 by decide]
  obtain ⟨σ14, e14⟩ : ∃ x, x = mPr σ13 (o + 1) 3 (some (o + 80)) := ⟨_, rfl⟩
  rw [← e14]
  have N_14 : σ14.2.1.length = o + 106 := by rw [e14]; exact N_13
  have T_14 : σ14.1 = σ.1 + 2408 := by rw [e14]; exact T_13
  have O_14 : rOK σ14 := by rw [e14]; exact rOK_pr O_13 (by omega)
  have X_14 : Ex σ σ14 o := by rw [e14]; exact X_13.pr (by omega)
  have K_0_14 : σ14.2.1[o]? = some (1, 0) := by rw [e14]; exact K_0_13
  have K_1_14 : σ14.2.1[o + 1]? = some (26, 8) := by rw [e14]; exact K_1_13
  have K_2_14 : σ14.2.1[o + 2]? = some (8, 0) := by rw [e14]; exact K_2_13
  have K_28_14 : σ14.2.1[o + 28]? = some (8, 0) := by rw [e14]; exact K_28_13
  have K_54_14 : σ14.2.1[o + 54]? = some (8, 0) := by rw [e14]; exact K_54_13
  have K_80_14 : σ14.2.1[o + 80]? = some (8, 0) := by rw [e14]; exact K_80_13
  have G_0_2_14 : σ14.2.2.1 o 2 = some (o + 1) := by rw [e14]; exact g_prO (by omega) G_0_2_13
  have G_1_0_14 : σ14.2.2.1 (o + 1) 0 = some (o + 2) := by rw [e14]; exact g_prK (by decide) G_1_0_13
  have G_1_1_14 : σ14.2.2.1 (o + 1) 1 = some (o + 28) := by rw [e14]; exact g_prK (by decide) G_1_1_13
  have G_1_2_14 : σ14.2.2.1 (o + 1) 2 = some (o + 54) := by rw [e14]; exact g_prK (by decide) G_1_2_13
  have S_0_14 : isWorld (mBo σ14) (o + 2) := by rw [e14]; exact isWorld_ext S_0_13 (fun q x h => h) (fun q h1 h2 => mup_ne (by omega))
  have S_1_14 : isWorld (mBo σ14) (o + 28) := by rw [e14]; exact isWorld_ext S_1_13 (fun q x h => h) (fun q h1 h2 => mup_ne (by omega))
  have S_2_14 : isWorld (mBo σ14) (o + 54) := by rw [e14]; exact isWorld_ext S_2_13 (fun q x h => h) (fun q h1 h2 => mup_ne (by omega))
  have S_3_14 : isWorld (mBo σ14) (o + 80) := by rw [e14]; exact isWorld_ext S_3_13 (fun q x h => h) (fun q h1 h2 => mup_ne (by omega))
  have R_0_14 : σ14.2.2.2.1 o = fun _ => 0 := by rw [e14]; exact R_0_13
  have R_1_14 : σ14.2.2.2.1 (o + 1) = fun _ => 0 := by rw [e14]; exact R_1_13
  have R_6_14 : σ14.2.2.2.1 (o + 6) = upd (fun _ => 0) 0 0 := by rw [e14]; exact R_6_13
  have R_17_14 : σ14.2.2.2.1 (o + 17) = upd (fun _ => 0) 0 1 := by rw [e14]; exact R_17_13
  have R_13_14 : σ14.2.2.2.1 (o + 13) = fun _ => 0 := by rw [e14]; exact R_13_13
  have R_24_14 : σ14.2.2.2.1 (o + 24) = fun _ => 0 := by rw [e14]; exact R_24_13
  have R_32_14 : σ14.2.2.2.1 (o + 32) = upd (fun _ => 0) 0 0 := by rw [e14]; exact R_32_13
  have R_43_14 : σ14.2.2.2.1 (o + 43) = upd (fun _ => 0) 0 1 := by rw [e14]; exact R_43_13
  have R_39_14 : σ14.2.2.2.1 (o + 39) = fun _ => 0 := by rw [e14]; exact R_39_13
  have R_50_14 : σ14.2.2.2.1 (o + 50) = fun _ => 0 := by rw [e14]; exact R_50_13
  have R_58_14 : σ14.2.2.2.1 (o + 58) = upd (fun _ => 0) 0 0 := by rw [e14]; exact R_58_13
  have R_69_14 : σ14.2.2.2.1 (o + 69) = upd (fun _ => 0) 0 1 := by rw [e14]; exact R_69_13
  have R_65_14 : σ14.2.2.2.1 (o + 65) = fun _ => 0 := by rw [e14]; exact R_65_13
  have R_76_14 : σ14.2.2.2.1 (o + 76) = fun _ => 0 := by rw [e14]; exact R_76_13
  have R_84_14 : σ14.2.2.2.1 (o + 84) = upd (fun _ => 0) 0 0 := by rw [e14]; exact R_84_13
  have R_95_14 : σ14.2.2.2.1 (o + 95) = upd (fun _ => 0) 0 1 := by rw [e14]; exact R_95_13
  have R_91_14 : σ14.2.2.2.1 (o + 91) = fun _ => 0 := by rw [e14]; exact R_91_13
  have R_102_14 : σ14.2.2.2.1 (o + 102) = fun _ => 0 := by rw [e14]; exact R_102_13
  have G_1_3_14 : σ14.2.2.1 (o + 1) 3 = some (o + 80) := by rw [e14]; exact g_prS
  clear K_0_13 K_1_13 K_2_13 K_28_13 K_54_13 K_80_13 G_0_2_13 G_1_0_13 G_1_1_13 G_1_2_13 S_0_13 S_1_13 S_2_13 S_3_13 R_0_13 R_1_13 R_6_13 R_17_13 R_13_13 R_24_13 R_32_13 R_43_13 R_39_13 R_50_13 R_58_13 R_69_13 R_65_13 R_76_13 R_84_13 R_95_13 R_91_13 R_102_13 N_13 T_13 O_13 X_13 e14 σ13
  show RC _ _ _ [some (.ref o), some (.int 3)] [] σ14 _
  refine c_iinc (x := 3) (L' := [some (.ref o), some (.int 4)]) rfl rfl rfl ?_
  refine c_goto ?_
  show RC _ _ _ [some (.ref o), some (.int 4)] [] σ14 _
  refine c_iload rfl ?_
  refine c_int ?_
  refine c_icmpF (show ¬ ((8 : Int32) ≤ 4) by decide) ?_
  show RC _ _ _ [some (.ref o), some (.int 4)] [] σ14 _
  refine c_aload rfl ?_
  refine c_getr (q := o + 1) K_0_14 G_0_2_14 ?_
  refine c_iload rfl ?_
  refine c_new (k := 8) (mOut_lt (ltL [o] rfl (List.forall_mem_cons.mpr ⟨by omega, (fun _ h => absurd h List.not_mem_nil)⟩)) (ltS [o + 1] rfl (List.forall_mem_cons.mpr ⟨by omega, (fun _ h => absurd h List.not_mem_nil)⟩))) O_14 ?_
  obtain ⟨σ15, e15⟩ : ∃ x, x = mNew σ14 8 0 (mFt.getD 8 []).length := ⟨_, rfl⟩
  rw [← e15, show σ14.2.1.length = o + 106 by omega]
  have N_15 : σ15.2.1.length = o + 107 := by rw [e15, len_new]; omega
  have T_15 : σ15.1 = σ.1 + 2411 := by rw [e15]; show σ14.1 + 3 = _; omega
  have O_15 : rOK σ15 := by rw [e15]; exact rOK_new O_14
  have X_15 : Ex σ σ15 o := by rw [e15]; exact X_14.new (by omega)
  have K_0_15 : σ15.2.1[o]? = some (1, 0) := by rw [e15]; exact k_new K_0_14
  have K_1_15 : σ15.2.1[o + 1]? = some (26, 8) := by rw [e15]; exact k_new K_1_14
  have K_2_15 : σ15.2.1[o + 2]? = some (8, 0) := by rw [e15]; exact k_new K_2_14
  have K_28_15 : σ15.2.1[o + 28]? = some (8, 0) := by rw [e15]; exact k_new K_28_14
  have K_54_15 : σ15.2.1[o + 54]? = some (8, 0) := by rw [e15]; exact k_new K_54_14
  have K_80_15 : σ15.2.1[o + 80]? = some (8, 0) := by rw [e15]; exact k_new K_80_14
  have G_0_2_15 : σ15.2.2.1 o 2 = some (o + 1) := by rw [e15]; exact g_new (by omega) G_0_2_14
  have G_1_0_15 : σ15.2.2.1 (o + 1) 0 = some (o + 2) := by rw [e15]; exact g_new (by omega) G_1_0_14
  have G_1_1_15 : σ15.2.2.1 (o + 1) 1 = some (o + 28) := by rw [e15]; exact g_new (by omega) G_1_1_14
  have G_1_2_15 : σ15.2.2.1 (o + 1) 2 = some (o + 54) := by rw [e15]; exact g_new (by omega) G_1_2_14
  have G_1_3_15 : σ15.2.2.1 (o + 1) 3 = some (o + 80) := by rw [e15]; exact g_new (by omega) G_1_3_14
  have S_0_15 : isWorld (mBo σ15) (o + 2) := by rw [e15]; exact isWorld_ext S_0_14 (fun q x h => k_new h) (fun q h1 h2 => mup_ne (by omega))
  have S_1_15 : isWorld (mBo σ15) (o + 28) := by rw [e15]; exact isWorld_ext S_1_14 (fun q x h => k_new h) (fun q h1 h2 => mup_ne (by omega))
  have S_2_15 : isWorld (mBo σ15) (o + 54) := by rw [e15]; exact isWorld_ext S_2_14 (fun q x h => k_new h) (fun q h1 h2 => mup_ne (by omega))
  have S_3_15 : isWorld (mBo σ15) (o + 80) := by rw [e15]; exact isWorld_ext S_3_14 (fun q x h => k_new h) (fun q h1 h2 => mup_ne (by omega))
  have R_0_15 : σ15.2.2.2.1 o = fun _ => 0 := by rw [e15]; exact (mup_ne (by omega)).trans R_0_14
  have R_1_15 : σ15.2.2.2.1 (o + 1) = fun _ => 0 := by rw [e15]; exact (mup_ne (by omega)).trans R_1_14
  have R_6_15 : σ15.2.2.2.1 (o + 6) = upd (fun _ => 0) 0 0 := by rw [e15]; exact (mup_ne (by omega)).trans R_6_14
  have R_17_15 : σ15.2.2.2.1 (o + 17) = upd (fun _ => 0) 0 1 := by rw [e15]; exact (mup_ne (by omega)).trans R_17_14
  have R_13_15 : σ15.2.2.2.1 (o + 13) = fun _ => 0 := by rw [e15]; exact (mup_ne (by omega)).trans R_13_14
  have R_24_15 : σ15.2.2.2.1 (o + 24) = fun _ => 0 := by rw [e15]; exact (mup_ne (by omega)).trans R_24_14
  have R_32_15 : σ15.2.2.2.1 (o + 32) = upd (fun _ => 0) 0 0 := by rw [e15]; exact (mup_ne (by omega)).trans R_32_14
  have R_43_15 : σ15.2.2.2.1 (o + 43) = upd (fun _ => 0) 0 1 := by rw [e15]; exact (mup_ne (by omega)).trans R_43_14
  have R_39_15 : σ15.2.2.2.1 (o + 39) = fun _ => 0 := by rw [e15]; exact (mup_ne (by omega)).trans R_39_14
  have R_50_15 : σ15.2.2.2.1 (o + 50) = fun _ => 0 := by rw [e15]; exact (mup_ne (by omega)).trans R_50_14
  have R_58_15 : σ15.2.2.2.1 (o + 58) = upd (fun _ => 0) 0 0 := by rw [e15]; exact (mup_ne (by omega)).trans R_58_14
  have R_69_15 : σ15.2.2.2.1 (o + 69) = upd (fun _ => 0) 0 1 := by rw [e15]; exact (mup_ne (by omega)).trans R_69_14
  have R_65_15 : σ15.2.2.2.1 (o + 65) = fun _ => 0 := by rw [e15]; exact (mup_ne (by omega)).trans R_65_14
  have R_76_15 : σ15.2.2.2.1 (o + 76) = fun _ => 0 := by rw [e15]; exact (mup_ne (by omega)).trans R_76_14
  have R_84_15 : σ15.2.2.2.1 (o + 84) = upd (fun _ => 0) 0 0 := by rw [e15]; exact (mup_ne (by omega)).trans R_84_14
  have R_95_15 : σ15.2.2.2.1 (o + 95) = upd (fun _ => 0) 0 1 := by rw [e15]; exact (mup_ne (by omega)).trans R_95_14
  have R_91_15 : σ15.2.2.2.1 (o + 91) = fun _ => 0 := by rw [e15]; exact (mup_ne (by omega)).trans R_91_14
  have R_102_15 : σ15.2.2.2.1 (o + 102) = fun _ => 0 := by rw [e15]; exact (mup_ne (by omega)).trans R_102_14
  have K_106_15 : σ15.2.1[o + 106]? = some (8, 0) := by rw [e15, ← show σ14.2.1.length = o + 106 by omega]; exact k_newS
  have R_106_15 : σ15.2.2.2.1 (o + 106) = fun _ => 0 := by rw [e15, ← show σ14.2.1.length = o + 106 by omega]; exact mup_eq
  clear K_0_14 K_1_14 K_2_14 K_28_14 K_54_14 K_80_14 G_0_2_14 G_1_0_14 G_1_1_14 G_1_2_14 G_1_3_14 S_0_14 S_1_14 S_2_14 S_3_14 R_0_14 R_1_14 R_6_14 R_17_14 R_13_14 R_24_14 R_32_14 R_43_14 R_39_14 R_50_14 R_58_14 R_69_14 R_65_14 R_76_14 R_84_14 R_95_14 R_91_14 R_102_14 N_14 T_14 O_14 X_14 e15 σ14
  show RC _ _ _ [some (.ref o), some (.int 4)] [.ref (o + 106), .int 4, .ref (o + 1)] σ15 _
  refine c_dup rfl ?_
  refine c_call (o := o + 106) (as := []) (st := [.ref (o + 106), .int 4, .ref (o + 1)]) (rfl) rfl (Nat.le_of_ble_eq_true rfl) (Or.inr rfl) (ltL [o] rfl (List.forall_mem_cons.mpr ⟨by omega, (fun _ h => absurd h List.not_mem_nil)⟩)) (ltS [o + 106, o + 1] rfl (List.forall_mem_cons.mpr ⟨by omega, (List.forall_mem_cons.mpr ⟨by omega, (fun _ h => absurd h List.not_mem_nil)⟩)⟩)) (nY8_init (by omega) O_15 R_106_15 K_106_15 (by omega)) (fun σ16 Z_16 => ?_)
  obtain ⟨E_16, NN_16, TT_16, O_16, Y0_16, Y1_16, Y2_16, Y3_16, Y4_16⟩ := Z_16
  have N_16 : σ16.2.1.length = o + 132 := by omega
  have T_16 : σ16.1 = σ.1 + 3008 := by omega
  have X_16 : Ex σ σ16 o := X_15.call E_16 (by omega)
  have K_0_16 : σ16.2.1[o]? = some (1, 0) := E_16.1 _ _ K_0_15
  have K_1_16 : σ16.2.1[o + 1]? = some (26, 8) := E_16.1 _ _ K_1_15
  have K_2_16 : σ16.2.1[o + 2]? = some (8, 0) := E_16.1 _ _ K_2_15
  have K_28_16 : σ16.2.1[o + 28]? = some (8, 0) := E_16.1 _ _ K_28_15
  have K_54_16 : σ16.2.1[o + 54]? = some (8, 0) := E_16.1 _ _ K_54_15
  have K_80_16 : σ16.2.1[o + 80]? = some (8, 0) := E_16.1 _ _ K_80_15
  have K_106_16 : σ16.2.1[o + 106]? = some (8, 0) := E_16.1 _ _ K_106_15
  have G_0_2_16 : σ16.2.2.1 o 2 = some (o + 1) := by rw [(E_16.2 _ (by omega) (by omega)).1]; exact G_0_2_15
  have G_1_0_16 : σ16.2.2.1 (o + 1) 0 = some (o + 2) := by rw [(E_16.2 _ (by omega) (by omega)).1]; exact G_1_0_15
  have G_1_1_16 : σ16.2.2.1 (o + 1) 1 = some (o + 28) := by rw [(E_16.2 _ (by omega) (by omega)).1]; exact G_1_1_15
  have G_1_2_16 : σ16.2.2.1 (o + 1) 2 = some (o + 54) := by rw [(E_16.2 _ (by omega) (by omega)).1]; exact G_1_2_15
  have G_1_3_16 : σ16.2.2.1 (o + 1) 3 = some (o + 80) := by rw [(E_16.2 _ (by omega) (by omega)).1]; exact G_1_3_15
  have S_0_16 : isWorld (mBo σ16) (o + 2) := isWorld_ext S_0_15 E_16.1 (fun q h1 h2 => (E_16.2 q (by omega) (by omega)).1)
  have S_1_16 : isWorld (mBo σ16) (o + 28) := isWorld_ext S_1_15 E_16.1 (fun q h1 h2 => (E_16.2 q (by omega) (by omega)).1)
  have S_2_16 : isWorld (mBo σ16) (o + 54) := isWorld_ext S_2_15 E_16.1 (fun q h1 h2 => (E_16.2 q (by omega) (by omega)).1)
  have S_3_16 : isWorld (mBo σ16) (o + 80) := isWorld_ext S_3_15 E_16.1 (fun q h1 h2 => (E_16.2 q (by omega) (by omega)).1)
  have R_0_16 : σ16.2.2.2.1 o = fun _ => 0 := by rw [(E_16.2 _ (by omega) (by omega)).2.1]; exact R_0_15
  have R_1_16 : σ16.2.2.2.1 (o + 1) = fun _ => 0 := by rw [(E_16.2 _ (by omega) (by omega)).2.1]; exact R_1_15
  have R_6_16 : σ16.2.2.2.1 (o + 6) = upd (fun _ => 0) 0 0 := by rw [(E_16.2 _ (by omega) (by omega)).2.1]; exact R_6_15
  have R_17_16 : σ16.2.2.2.1 (o + 17) = upd (fun _ => 0) 0 1 := by rw [(E_16.2 _ (by omega) (by omega)).2.1]; exact R_17_15
  have R_13_16 : σ16.2.2.2.1 (o + 13) = fun _ => 0 := by rw [(E_16.2 _ (by omega) (by omega)).2.1]; exact R_13_15
  have R_24_16 : σ16.2.2.2.1 (o + 24) = fun _ => 0 := by rw [(E_16.2 _ (by omega) (by omega)).2.1]; exact R_24_15
  have R_32_16 : σ16.2.2.2.1 (o + 32) = upd (fun _ => 0) 0 0 := by rw [(E_16.2 _ (by omega) (by omega)).2.1]; exact R_32_15
  have R_43_16 : σ16.2.2.2.1 (o + 43) = upd (fun _ => 0) 0 1 := by rw [(E_16.2 _ (by omega) (by omega)).2.1]; exact R_43_15
  have R_39_16 : σ16.2.2.2.1 (o + 39) = fun _ => 0 := by rw [(E_16.2 _ (by omega) (by omega)).2.1]; exact R_39_15
  have R_50_16 : σ16.2.2.2.1 (o + 50) = fun _ => 0 := by rw [(E_16.2 _ (by omega) (by omega)).2.1]; exact R_50_15
  have R_58_16 : σ16.2.2.2.1 (o + 58) = upd (fun _ => 0) 0 0 := by rw [(E_16.2 _ (by omega) (by omega)).2.1]; exact R_58_15
  have R_69_16 : σ16.2.2.2.1 (o + 69) = upd (fun _ => 0) 0 1 := by rw [(E_16.2 _ (by omega) (by omega)).2.1]; exact R_69_15
  have R_65_16 : σ16.2.2.2.1 (o + 65) = fun _ => 0 := by rw [(E_16.2 _ (by omega) (by omega)).2.1]; exact R_65_15
  have R_76_16 : σ16.2.2.2.1 (o + 76) = fun _ => 0 := by rw [(E_16.2 _ (by omega) (by omega)).2.1]; exact R_76_15
  have R_84_16 : σ16.2.2.2.1 (o + 84) = upd (fun _ => 0) 0 0 := by rw [(E_16.2 _ (by omega) (by omega)).2.1]; exact R_84_15
  have R_95_16 : σ16.2.2.2.1 (o + 95) = upd (fun _ => 0) 0 1 := by rw [(E_16.2 _ (by omega) (by omega)).2.1]; exact R_95_15
  have R_91_16 : σ16.2.2.2.1 (o + 91) = fun _ => 0 := by rw [(E_16.2 _ (by omega) (by omega)).2.1]; exact R_91_15
  have R_102_16 : σ16.2.2.2.1 (o + 102) = fun _ => 0 := by rw [(E_16.2 _ (by omega) (by omega)).2.1]; exact R_102_15
  have S_4_16 : isWorld (mBo σ16) (o + 106) := Y0_16
  have R_110_16 : σ16.2.2.2.1 (o + 110) = upd (fun _ => 0) 0 0 := Y1_16
  have R_121_16 : σ16.2.2.2.1 (o + 121) = upd (fun _ => 0) 0 1 := Y2_16
  have R_117_16 : σ16.2.2.2.1 (o + 117) = fun _ => 0 := Y3_16
  have R_128_16 : σ16.2.2.2.1 (o + 128) = fun _ => 0 := Y4_16
  clear K_0_15 K_1_15 K_2_15 K_28_15 K_54_15 K_80_15 K_106_15 G_0_2_15 G_1_0_15 G_1_1_15 G_1_2_15 G_1_3_15 S_0_15 S_1_15 S_2_15 S_3_15 R_0_15 R_1_15 R_6_15 R_17_15 R_13_15 R_24_15 R_32_15 R_43_15 R_39_15 R_50_15 R_58_15 R_69_15 R_65_15 R_76_15 R_84_15 R_95_15 R_91_15 R_102_15 R_106_15 N_15 T_15 O_15 X_15 E_16 NN_16 TT_16 Y0_16 Y1_16 Y2_16 Y3_16 Y4_16 σ15
  show RC _ _ _ [some (.ref o), some (.int 4)] [.ref (o + 106), .int 4, .ref (o + 1)] σ16 _
  refine c_ast K_1_16 (Or.inr (Or.inr rfl)) K_106_16 (lt_in 4 8 rfl rfl) ?_
  rw [show ((4 : Int32)).toNatClampNeg = 4 by decide]
  obtain ⟨σ17, e17⟩ : ∃ x, x = mPr σ16 (o + 1) 4 (some (o + 106)) := ⟨_, rfl⟩
  rw [← e17]
  have N_17 : σ17.2.1.length = o + 132 := by rw [e17]; exact N_16
  have T_17 : σ17.1 = σ.1 + 3008 := by rw [e17]; exact T_16
  have O_17 : rOK σ17 := by rw [e17]; exact rOK_pr O_16 (by omega)
  have X_17 : Ex σ σ17 o := by rw [e17]; exact X_16.pr (by omega)
  have K_0_17 : σ17.2.1[o]? = some (1, 0) := by rw [e17]; exact K_0_16
  have K_1_17 : σ17.2.1[o + 1]? = some (26, 8) := by rw [e17]; exact K_1_16
  have K_2_17 : σ17.2.1[o + 2]? = some (8, 0) := by rw [e17]; exact K_2_16
  have K_28_17 : σ17.2.1[o + 28]? = some (8, 0) := by rw [e17]; exact K_28_16
  have K_54_17 : σ17.2.1[o + 54]? = some (8, 0) := by rw [e17]; exact K_54_16
  have K_80_17 : σ17.2.1[o + 80]? = some (8, 0) := by rw [e17]; exact K_80_16
  have K_106_17 : σ17.2.1[o + 106]? = some (8, 0) := by rw [e17]; exact K_106_16
  have G_0_2_17 : σ17.2.2.1 o 2 = some (o + 1) := by rw [e17]; exact g_prO (by omega) G_0_2_16
  have G_1_0_17 : σ17.2.2.1 (o + 1) 0 = some (o + 2) := by rw [e17]; exact g_prK (by decide) G_1_0_16
  have G_1_1_17 : σ17.2.2.1 (o + 1) 1 = some (o + 28) := by rw [e17]; exact g_prK (by decide) G_1_1_16
  have G_1_2_17 : σ17.2.2.1 (o + 1) 2 = some (o + 54) := by rw [e17]; exact g_prK (by decide) G_1_2_16
  have G_1_3_17 : σ17.2.2.1 (o + 1) 3 = some (o + 80) := by rw [e17]; exact g_prK (by decide) G_1_3_16
  have S_0_17 : isWorld (mBo σ17) (o + 2) := by rw [e17]; exact isWorld_ext S_0_16 (fun q x h => h) (fun q h1 h2 => mup_ne (by omega))
  have S_1_17 : isWorld (mBo σ17) (o + 28) := by rw [e17]; exact isWorld_ext S_1_16 (fun q x h => h) (fun q h1 h2 => mup_ne (by omega))
  have S_2_17 : isWorld (mBo σ17) (o + 54) := by rw [e17]; exact isWorld_ext S_2_16 (fun q x h => h) (fun q h1 h2 => mup_ne (by omega))
  have S_3_17 : isWorld (mBo σ17) (o + 80) := by rw [e17]; exact isWorld_ext S_3_16 (fun q x h => h) (fun q h1 h2 => mup_ne (by omega))
  have S_4_17 : isWorld (mBo σ17) (o + 106) := by rw [e17]; exact isWorld_ext S_4_16 (fun q x h => h) (fun q h1 h2 => mup_ne (by omega))
  have R_0_17 : σ17.2.2.2.1 o = fun _ => 0 := by rw [e17]; exact R_0_16
  have R_1_17 : σ17.2.2.2.1 (o + 1) = fun _ => 0 := by rw [e17]; exact R_1_16
  have R_6_17 : σ17.2.2.2.1 (o + 6) = upd (fun _ => 0) 0 0 := by rw [e17]; exact R_6_16
  have R_17_17 : σ17.2.2.2.1 (o + 17) = upd (fun _ => 0) 0 1 := by rw [e17]; exact R_17_16
  have R_13_17 : σ17.2.2.2.1 (o + 13) = fun _ => 0 := by rw [e17]; exact R_13_16
  have R_24_17 : σ17.2.2.2.1 (o + 24) = fun _ => 0 := by rw [e17]; exact R_24_16
  have R_32_17 : σ17.2.2.2.1 (o + 32) = upd (fun _ => 0) 0 0 := by rw [e17]; exact R_32_16
  have R_43_17 : σ17.2.2.2.1 (o + 43) = upd (fun _ => 0) 0 1 := by rw [e17]; exact R_43_16
  have R_39_17 : σ17.2.2.2.1 (o + 39) = fun _ => 0 := by rw [e17]; exact R_39_16
  have R_50_17 : σ17.2.2.2.1 (o + 50) = fun _ => 0 := by rw [e17]; exact R_50_16
  have R_58_17 : σ17.2.2.2.1 (o + 58) = upd (fun _ => 0) 0 0 := by rw [e17]; exact R_58_16
  have R_69_17 : σ17.2.2.2.1 (o + 69) = upd (fun _ => 0) 0 1 := by rw [e17]; exact R_69_16
  have R_65_17 : σ17.2.2.2.1 (o + 65) = fun _ => 0 := by rw [e17]; exact R_65_16
  have R_76_17 : σ17.2.2.2.1 (o + 76) = fun _ => 0 := by rw [e17]; exact R_76_16
  have R_84_17 : σ17.2.2.2.1 (o + 84) = upd (fun _ => 0) 0 0 := by rw [e17]; exact R_84_16
  have R_95_17 : σ17.2.2.2.1 (o + 95) = upd (fun _ => 0) 0 1 := by rw [e17]; exact R_95_16
  have R_91_17 : σ17.2.2.2.1 (o + 91) = fun _ => 0 := by rw [e17]; exact R_91_16
  have R_102_17 : σ17.2.2.2.1 (o + 102) = fun _ => 0 := by rw [e17]; exact R_102_16
  have R_110_17 : σ17.2.2.2.1 (o + 110) = upd (fun _ => 0) 0 0 := by rw [e17]; exact R_110_16
  have R_121_17 : σ17.2.2.2.1 (o + 121) = upd (fun _ => 0) 0 1 := by rw [e17]; exact R_121_16
  have R_117_17 : σ17.2.2.2.1 (o + 117) = fun _ => 0 := by rw [e17]; exact R_117_16
  have R_128_17 : σ17.2.2.2.1 (o + 128) = fun _ => 0 := by rw [e17]; exact R_128_16
  have G_1_4_17 : σ17.2.2.1 (o + 1) 4 = some (o + 106) := by rw [e17]; exact g_prS
  clear K_0_16 K_1_16 K_2_16 K_28_16 K_54_16 K_80_16 K_106_16 G_0_2_16 G_1_0_16 G_1_1_16 G_1_2_16 G_1_3_16 S_0_16 S_1_16 S_2_16 S_3_16 S_4_16 R_0_16 R_1_16 R_6_16 R_17_16 R_13_16 R_24_16 R_32_16 R_43_16 R_39_16 R_50_16 R_58_16 R_69_16 R_65_16 R_76_16 R_84_16 R_95_16 R_91_16 R_102_16 R_110_16 R_121_16 R_117_16 R_128_16 N_16 T_16 O_16 X_16 e17 σ16
  show RC _ _ _ [some (.ref o), some (.int 4)] [] σ17 _
  refine c_iinc (x := 4) (L' := [some (.ref o), some (.int 5)]) rfl rfl rfl ?_
  refine c_goto ?_
  show RC _ _ _ [some (.ref o), some (.int 5)] [] σ17 _
  refine c_iload rfl ?_
  refine c_int ?_
  refine c_icmpF (show ¬ ((8 : Int32) ≤ 5) by decide) ?_
  show RC _ _ _ [some (.ref o), some (.int 5)] [] σ17 _
  refine c_aload rfl ?_
  refine c_getr (q := o + 1) K_0_17 G_0_2_17 ?_
  refine c_iload rfl ?_
  refine c_new (k := 8) (mOut_lt (ltL [o] rfl (List.forall_mem_cons.mpr ⟨by omega, (fun _ h => absurd h List.not_mem_nil)⟩)) (ltS [o + 1] rfl (List.forall_mem_cons.mpr ⟨by omega, (fun _ h => absurd h List.not_mem_nil)⟩))) O_17 ?_
  obtain ⟨σ18, e18⟩ : ∃ x, x = mNew σ17 8 0 (mFt.getD 8 []).length := ⟨_, rfl⟩
  rw [← e18, show σ17.2.1.length = o + 132 by omega]
  have N_18 : σ18.2.1.length = o + 133 := by rw [e18, len_new]; omega
  have T_18 : σ18.1 = σ.1 + 3011 := by rw [e18]; show σ17.1 + 3 = _; omega
  have O_18 : rOK σ18 := by rw [e18]; exact rOK_new O_17
  have X_18 : Ex σ σ18 o := by rw [e18]; exact X_17.new (by omega)
  have K_0_18 : σ18.2.1[o]? = some (1, 0) := by rw [e18]; exact k_new K_0_17
  have K_1_18 : σ18.2.1[o + 1]? = some (26, 8) := by rw [e18]; exact k_new K_1_17
  have K_2_18 : σ18.2.1[o + 2]? = some (8, 0) := by rw [e18]; exact k_new K_2_17
  have K_28_18 : σ18.2.1[o + 28]? = some (8, 0) := by rw [e18]; exact k_new K_28_17
  have K_54_18 : σ18.2.1[o + 54]? = some (8, 0) := by rw [e18]; exact k_new K_54_17
  have K_80_18 : σ18.2.1[o + 80]? = some (8, 0) := by rw [e18]; exact k_new K_80_17
  have K_106_18 : σ18.2.1[o + 106]? = some (8, 0) := by rw [e18]; exact k_new K_106_17
  have G_0_2_18 : σ18.2.2.1 o 2 = some (o + 1) := by rw [e18]; exact g_new (by omega) G_0_2_17
  have G_1_0_18 : σ18.2.2.1 (o + 1) 0 = some (o + 2) := by rw [e18]; exact g_new (by omega) G_1_0_17
  have G_1_1_18 : σ18.2.2.1 (o + 1) 1 = some (o + 28) := by rw [e18]; exact g_new (by omega) G_1_1_17
  have G_1_2_18 : σ18.2.2.1 (o + 1) 2 = some (o + 54) := by rw [e18]; exact g_new (by omega) G_1_2_17
  have G_1_3_18 : σ18.2.2.1 (o + 1) 3 = some (o + 80) := by rw [e18]; exact g_new (by omega) G_1_3_17
  have G_1_4_18 : σ18.2.2.1 (o + 1) 4 = some (o + 106) := by rw [e18]; exact g_new (by omega) G_1_4_17
  have S_0_18 : isWorld (mBo σ18) (o + 2) := by rw [e18]; exact isWorld_ext S_0_17 (fun q x h => k_new h) (fun q h1 h2 => mup_ne (by omega))
  have S_1_18 : isWorld (mBo σ18) (o + 28) := by rw [e18]; exact isWorld_ext S_1_17 (fun q x h => k_new h) (fun q h1 h2 => mup_ne (by omega))
  have S_2_18 : isWorld (mBo σ18) (o + 54) := by rw [e18]; exact isWorld_ext S_2_17 (fun q x h => k_new h) (fun q h1 h2 => mup_ne (by omega))
  have S_3_18 : isWorld (mBo σ18) (o + 80) := by rw [e18]; exact isWorld_ext S_3_17 (fun q x h => k_new h) (fun q h1 h2 => mup_ne (by omega))
  have S_4_18 : isWorld (mBo σ18) (o + 106) := by rw [e18]; exact isWorld_ext S_4_17 (fun q x h => k_new h) (fun q h1 h2 => mup_ne (by omega))
  have R_0_18 : σ18.2.2.2.1 o = fun _ => 0 := by rw [e18]; exact (mup_ne (by omega)).trans R_0_17
  have R_1_18 : σ18.2.2.2.1 (o + 1) = fun _ => 0 := by rw [e18]; exact (mup_ne (by omega)).trans R_1_17
  have R_6_18 : σ18.2.2.2.1 (o + 6) = upd (fun _ => 0) 0 0 := by rw [e18]; exact (mup_ne (by omega)).trans R_6_17
  have R_17_18 : σ18.2.2.2.1 (o + 17) = upd (fun _ => 0) 0 1 := by rw [e18]; exact (mup_ne (by omega)).trans R_17_17
  have R_13_18 : σ18.2.2.2.1 (o + 13) = fun _ => 0 := by rw [e18]; exact (mup_ne (by omega)).trans R_13_17
  have R_24_18 : σ18.2.2.2.1 (o + 24) = fun _ => 0 := by rw [e18]; exact (mup_ne (by omega)).trans R_24_17
  have R_32_18 : σ18.2.2.2.1 (o + 32) = upd (fun _ => 0) 0 0 := by rw [e18]; exact (mup_ne (by omega)).trans R_32_17
  have R_43_18 : σ18.2.2.2.1 (o + 43) = upd (fun _ => 0) 0 1 := by rw [e18]; exact (mup_ne (by omega)).trans R_43_17
  have R_39_18 : σ18.2.2.2.1 (o + 39) = fun _ => 0 := by rw [e18]; exact (mup_ne (by omega)).trans R_39_17
  have R_50_18 : σ18.2.2.2.1 (o + 50) = fun _ => 0 := by rw [e18]; exact (mup_ne (by omega)).trans R_50_17
  have R_58_18 : σ18.2.2.2.1 (o + 58) = upd (fun _ => 0) 0 0 := by rw [e18]; exact (mup_ne (by omega)).trans R_58_17
  have R_69_18 : σ18.2.2.2.1 (o + 69) = upd (fun _ => 0) 0 1 := by rw [e18]; exact (mup_ne (by omega)).trans R_69_17
  have R_65_18 : σ18.2.2.2.1 (o + 65) = fun _ => 0 := by rw [e18]; exact (mup_ne (by omega)).trans R_65_17
  have R_76_18 : σ18.2.2.2.1 (o + 76) = fun _ => 0 := by rw [e18]; exact (mup_ne (by omega)).trans R_76_17
  have R_84_18 : σ18.2.2.2.1 (o + 84) = upd (fun _ => 0) 0 0 := by rw [e18]; exact (mup_ne (by omega)).trans R_84_17
  have R_95_18 : σ18.2.2.2.1 (o + 95) = upd (fun _ => 0) 0 1 := by rw [e18]; exact (mup_ne (by omega)).trans R_95_17
  have R_91_18 : σ18.2.2.2.1 (o + 91) = fun _ => 0 := by rw [e18]; exact (mup_ne (by omega)).trans R_91_17
  have R_102_18 : σ18.2.2.2.1 (o + 102) = fun _ => 0 := by rw [e18]; exact (mup_ne (by omega)).trans R_102_17
  have R_110_18 : σ18.2.2.2.1 (o + 110) = upd (fun _ => 0) 0 0 := by rw [e18]; exact (mup_ne (by omega)).trans R_110_17
  have R_121_18 : σ18.2.2.2.1 (o + 121) = upd (fun _ => 0) 0 1 := by rw [e18]; exact (mup_ne (by omega)).trans R_121_17
  have R_117_18 : σ18.2.2.2.1 (o + 117) = fun _ => 0 := by rw [e18]; exact (mup_ne (by omega)).trans R_117_17
  have R_128_18 : σ18.2.2.2.1 (o + 128) = fun _ => 0 := by rw [e18]; exact (mup_ne (by omega)).trans R_128_17
  have K_132_18 : σ18.2.1[o + 132]? = some (8, 0) := by rw [e18, ← show σ17.2.1.length = o + 132 by omega]; exact k_newS
  have R_132_18 : σ18.2.2.2.1 (o + 132) = fun _ => 0 := by rw [e18, ← show σ17.2.1.length = o + 132 by omega]; exact mup_eq
  clear K_0_17 K_1_17 K_2_17 K_28_17 K_54_17 K_80_17 K_106_17 G_0_2_17 G_1_0_17 G_1_1_17 G_1_2_17 G_1_3_17 G_1_4_17 S_0_17 S_1_17 S_2_17 S_3_17 S_4_17 R_0_17 R_1_17 R_6_17 R_17_17 R_13_17 R_24_17 R_32_17 R_43_17 R_39_17 R_50_17 R_58_17 R_69_17 R_65_17 R_76_17 R_84_17 R_95_17 R_91_17 R_102_17 R_110_17 R_121_17 R_117_17 R_128_17 N_17 T_17 O_17 X_17 e18 σ17
  show RC _ _ _ [some (.ref o), some (.int 5)] [.ref (o + 132), .int 5, .ref (o + 1)] σ18 _
  refine c_dup rfl ?_
  refine c_call (o := o + 132) (as := []) (st := [.ref (o + 132), .int 5, .ref (o + 1)]) (rfl) rfl (Nat.le_of_ble_eq_true rfl) (Or.inr rfl) (ltL [o] rfl (List.forall_mem_cons.mpr ⟨by omega, (fun _ h => absurd h List.not_mem_nil)⟩)) (ltS [o + 132, o + 1] rfl (List.forall_mem_cons.mpr ⟨by omega, (List.forall_mem_cons.mpr ⟨by omega, (fun _ h => absurd h List.not_mem_nil)⟩)⟩)) (nY8_init (by omega) O_18 R_132_18 K_132_18 (by omega)) (fun σ19 Z_19 => ?_)
  obtain ⟨E_19, NN_19, TT_19, O_19, Y0_19, Y1_19, Y2_19, Y3_19, Y4_19⟩ := Z_19
  have N_19 : σ19.2.1.length = o + 158 := by omega
  have T_19 : σ19.1 = σ.1 + 3608 := by omega
  have X_19 : Ex σ σ19 o := X_18.call E_19 (by omega)
  have K_0_19 : σ19.2.1[o]? = some (1, 0) := E_19.1 _ _ K_0_18
  have K_1_19 : σ19.2.1[o + 1]? = some (26, 8) := E_19.1 _ _ K_1_18
  have K_2_19 : σ19.2.1[o + 2]? = some (8, 0) := E_19.1 _ _ K_2_18
  have K_28_19 : σ19.2.1[o + 28]? = some (8, 0) := E_19.1 _ _ K_28_18
  have K_54_19 : σ19.2.1[o + 54]? = some (8, 0) := E_19.1 _ _ K_54_18
  have K_80_19 : σ19.2.1[o + 80]? = some (8, 0) := E_19.1 _ _ K_80_18
  have K_106_19 : σ19.2.1[o + 106]? = some (8, 0) := E_19.1 _ _ K_106_18
  have K_132_19 : σ19.2.1[o + 132]? = some (8, 0) := E_19.1 _ _ K_132_18
  have G_0_2_19 : σ19.2.2.1 o 2 = some (o + 1) := by rw [(E_19.2 _ (by omega) (by omega)).1]; exact G_0_2_18
  have G_1_0_19 : σ19.2.2.1 (o + 1) 0 = some (o + 2) := by rw [(E_19.2 _ (by omega) (by omega)).1]; exact G_1_0_18
  have G_1_1_19 : σ19.2.2.1 (o + 1) 1 = some (o + 28) := by rw [(E_19.2 _ (by omega) (by omega)).1]; exact G_1_1_18
  have G_1_2_19 : σ19.2.2.1 (o + 1) 2 = some (o + 54) := by rw [(E_19.2 _ (by omega) (by omega)).1]; exact G_1_2_18
  have G_1_3_19 : σ19.2.2.1 (o + 1) 3 = some (o + 80) := by rw [(E_19.2 _ (by omega) (by omega)).1]; exact G_1_3_18
  have G_1_4_19 : σ19.2.2.1 (o + 1) 4 = some (o + 106) := by rw [(E_19.2 _ (by omega) (by omega)).1]; exact G_1_4_18
  have S_0_19 : isWorld (mBo σ19) (o + 2) := isWorld_ext S_0_18 E_19.1 (fun q h1 h2 => (E_19.2 q (by omega) (by omega)).1)
  have S_1_19 : isWorld (mBo σ19) (o + 28) := isWorld_ext S_1_18 E_19.1 (fun q h1 h2 => (E_19.2 q (by omega) (by omega)).1)
  have S_2_19 : isWorld (mBo σ19) (o + 54) := isWorld_ext S_2_18 E_19.1 (fun q h1 h2 => (E_19.2 q (by omega) (by omega)).1)
  have S_3_19 : isWorld (mBo σ19) (o + 80) := isWorld_ext S_3_18 E_19.1 (fun q h1 h2 => (E_19.2 q (by omega) (by omega)).1)
  have S_4_19 : isWorld (mBo σ19) (o + 106) := isWorld_ext S_4_18 E_19.1 (fun q h1 h2 => (E_19.2 q (by omega) (by omega)).1)
  have R_0_19 : σ19.2.2.2.1 o = fun _ => 0 := by rw [(E_19.2 _ (by omega) (by omega)).2.1]; exact R_0_18
  have R_1_19 : σ19.2.2.2.1 (o + 1) = fun _ => 0 := by rw [(E_19.2 _ (by omega) (by omega)).2.1]; exact R_1_18
  have R_6_19 : σ19.2.2.2.1 (o + 6) = upd (fun _ => 0) 0 0 := by rw [(E_19.2 _ (by omega) (by omega)).2.1]; exact R_6_18
  have R_17_19 : σ19.2.2.2.1 (o + 17) = upd (fun _ => 0) 0 1 := by rw [(E_19.2 _ (by omega) (by omega)).2.1]; exact R_17_18
  have R_13_19 : σ19.2.2.2.1 (o + 13) = fun _ => 0 := by rw [(E_19.2 _ (by omega) (by omega)).2.1]; exact R_13_18
  have R_24_19 : σ19.2.2.2.1 (o + 24) = fun _ => 0 := by rw [(E_19.2 _ (by omega) (by omega)).2.1]; exact R_24_18
  have R_32_19 : σ19.2.2.2.1 (o + 32) = upd (fun _ => 0) 0 0 := by rw [(E_19.2 _ (by omega) (by omega)).2.1]; exact R_32_18
  have R_43_19 : σ19.2.2.2.1 (o + 43) = upd (fun _ => 0) 0 1 := by rw [(E_19.2 _ (by omega) (by omega)).2.1]; exact R_43_18
  have R_39_19 : σ19.2.2.2.1 (o + 39) = fun _ => 0 := by rw [(E_19.2 _ (by omega) (by omega)).2.1]; exact R_39_18
  have R_50_19 : σ19.2.2.2.1 (o + 50) = fun _ => 0 := by rw [(E_19.2 _ (by omega) (by omega)).2.1]; exact R_50_18
  have R_58_19 : σ19.2.2.2.1 (o + 58) = upd (fun _ => 0) 0 0 := by rw [(E_19.2 _ (by omega) (by omega)).2.1]; exact R_58_18
  have R_69_19 : σ19.2.2.2.1 (o + 69) = upd (fun _ => 0) 0 1 := by rw [(E_19.2 _ (by omega) (by omega)).2.1]; exact R_69_18
  have R_65_19 : σ19.2.2.2.1 (o + 65) = fun _ => 0 := by rw [(E_19.2 _ (by omega) (by omega)).2.1]; exact R_65_18
  have R_76_19 : σ19.2.2.2.1 (o + 76) = fun _ => 0 := by rw [(E_19.2 _ (by omega) (by omega)).2.1]; exact R_76_18
  have R_84_19 : σ19.2.2.2.1 (o + 84) = upd (fun _ => 0) 0 0 := by rw [(E_19.2 _ (by omega) (by omega)).2.1]; exact R_84_18
  have R_95_19 : σ19.2.2.2.1 (o + 95) = upd (fun _ => 0) 0 1 := by rw [(E_19.2 _ (by omega) (by omega)).2.1]; exact R_95_18
  have R_91_19 : σ19.2.2.2.1 (o + 91) = fun _ => 0 := by rw [(E_19.2 _ (by omega) (by omega)).2.1]; exact R_91_18
  have R_102_19 : σ19.2.2.2.1 (o + 102) = fun _ => 0 := by rw [(E_19.2 _ (by omega) (by omega)).2.1]; exact R_102_18
  have R_110_19 : σ19.2.2.2.1 (o + 110) = upd (fun _ => 0) 0 0 := by rw [(E_19.2 _ (by omega) (by omega)).2.1]; exact R_110_18
  have R_121_19 : σ19.2.2.2.1 (o + 121) = upd (fun _ => 0) 0 1 := by rw [(E_19.2 _ (by omega) (by omega)).2.1]; exact R_121_18
  have R_117_19 : σ19.2.2.2.1 (o + 117) = fun _ => 0 := by rw [(E_19.2 _ (by omega) (by omega)).2.1]; exact R_117_18
  have R_128_19 : σ19.2.2.2.1 (o + 128) = fun _ => 0 := by rw [(E_19.2 _ (by omega) (by omega)).2.1]; exact R_128_18
  have S_5_19 : isWorld (mBo σ19) (o + 132) := Y0_19
  have R_136_19 : σ19.2.2.2.1 (o + 136) = upd (fun _ => 0) 0 0 := Y1_19
  have R_147_19 : σ19.2.2.2.1 (o + 147) = upd (fun _ => 0) 0 1 := Y2_19
  have R_143_19 : σ19.2.2.2.1 (o + 143) = fun _ => 0 := Y3_19
  have R_154_19 : σ19.2.2.2.1 (o + 154) = fun _ => 0 := Y4_19
  clear K_0_18 K_1_18 K_2_18 K_28_18 K_54_18 K_80_18 K_106_18 K_132_18 G_0_2_18 G_1_0_18 G_1_1_18 G_1_2_18 G_1_3_18 G_1_4_18 S_0_18 S_1_18 S_2_18 S_3_18 S_4_18 R_0_18 R_1_18 R_6_18 R_17_18 R_13_18 R_24_18 R_32_18 R_43_18 R_39_18 R_50_18 R_58_18 R_69_18 R_65_18 R_76_18 R_84_18 R_95_18 R_91_18 R_102_18 R_110_18 R_121_18 R_117_18 R_128_18 R_132_18 N_18 T_18 O_18 X_18 E_19 NN_19 TT_19 Y0_19 Y1_19 Y2_19 Y3_19 Y4_19 σ18
  show RC _ _ _ [some (.ref o), some (.int 5)] [.ref (o + 132), .int 5, .ref (o + 1)] σ19 _
  refine c_ast K_1_19 (Or.inr (Or.inr rfl)) K_132_19 (lt_in 5 8 rfl rfl) ?_
  rw [show ((5 : Int32)).toNatClampNeg = 5 by decide]
  obtain ⟨σ20, e20⟩ : ∃ x, x = mPr σ19 (o + 1) 5 (some (o + 132)) := ⟨_, rfl⟩
  rw [← e20]
  have N_20 : σ20.2.1.length = o + 158 := by rw [e20]; exact N_19
  have T_20 : σ20.1 = σ.1 + 3608 := by rw [e20]; exact T_19
  have O_20 : rOK σ20 := by rw [e20]; exact rOK_pr O_19 (by omega)
  have X_20 : Ex σ σ20 o := by rw [e20]; exact X_19.pr (by omega)
  have K_0_20 : σ20.2.1[o]? = some (1, 0) := by rw [e20]; exact K_0_19
  have K_1_20 : σ20.2.1[o + 1]? = some (26, 8) := by rw [e20]; exact K_1_19
  have K_2_20 : σ20.2.1[o + 2]? = some (8, 0) := by rw [e20]; exact K_2_19
  have K_28_20 : σ20.2.1[o + 28]? = some (8, 0) := by rw [e20]; exact K_28_19
  have K_54_20 : σ20.2.1[o + 54]? = some (8, 0) := by rw [e20]; exact K_54_19
  have K_80_20 : σ20.2.1[o + 80]? = some (8, 0) := by rw [e20]; exact K_80_19
  have K_106_20 : σ20.2.1[o + 106]? = some (8, 0) := by rw [e20]; exact K_106_19
  have K_132_20 : σ20.2.1[o + 132]? = some (8, 0) := by rw [e20]; exact K_132_19
  have G_0_2_20 : σ20.2.2.1 o 2 = some (o + 1) := by rw [e20]; exact g_prO (by omega) G_0_2_19
  have G_1_0_20 : σ20.2.2.1 (o + 1) 0 = some (o + 2) := by rw [e20]; exact g_prK (by decide) G_1_0_19
  have G_1_1_20 : σ20.2.2.1 (o + 1) 1 = some (o + 28) := by rw [e20]; exact g_prK (by decide) G_1_1_19
  have G_1_2_20 : σ20.2.2.1 (o + 1) 2 = some (o + 54) := by rw [e20]; exact g_prK (by decide) G_1_2_19
  have G_1_3_20 : σ20.2.2.1 (o + 1) 3 = some (o + 80) := by rw [e20]; exact g_prK (by decide) G_1_3_19
  have G_1_4_20 : σ20.2.2.1 (o + 1) 4 = some (o + 106) := by rw [e20]; exact g_prK (by decide) G_1_4_19
  have S_0_20 : isWorld (mBo σ20) (o + 2) := by rw [e20]; exact isWorld_ext S_0_19 (fun q x h => h) (fun q h1 h2 => mup_ne (by omega))
  have S_1_20 : isWorld (mBo σ20) (o + 28) := by rw [e20]; exact isWorld_ext S_1_19 (fun q x h => h) (fun q h1 h2 => mup_ne (by omega))
  have S_2_20 : isWorld (mBo σ20) (o + 54) := by rw [e20]; exact isWorld_ext S_2_19 (fun q x h => h) (fun q h1 h2 => mup_ne (by omega))
  have S_3_20 : isWorld (mBo σ20) (o + 80) := by rw [e20]; exact isWorld_ext S_3_19 (fun q x h => h) (fun q h1 h2 => mup_ne (by omega))
  have S_4_20 : isWorld (mBo σ20) (o + 106) := by rw [e20]; exact isWorld_ext S_4_19 (fun q x h => h) (fun q h1 h2 => mup_ne (by omega))
  have S_5_20 : isWorld (mBo σ20) (o + 132) := by rw [e20]; exact isWorld_ext S_5_19 (fun q x h => h) (fun q h1 h2 => mup_ne (by omega))
  have R_0_20 : σ20.2.2.2.1 o = fun _ => 0 := by rw [e20]; exact R_0_19
  have R_1_20 : σ20.2.2.2.1 (o + 1) = fun _ => 0 := by rw [e20]; exact R_1_19
  have R_6_20 : σ20.2.2.2.1 (o + 6) = upd (fun _ => 0) 0 0 := by rw [e20]; exact R_6_19
  have R_17_20 : σ20.2.2.2.1 (o + 17) = upd (fun _ => 0) 0 1 := by rw [e20]; exact R_17_19
  have R_13_20 : σ20.2.2.2.1 (o + 13) = fun _ => 0 := by rw [e20]; exact R_13_19
  have R_24_20 : σ20.2.2.2.1 (o + 24) = fun _ => 0 := by rw [e20]; exact R_24_19
  have R_32_20 : σ20.2.2.2.1 (o + 32) = upd (fun _ => 0) 0 0 := by rw [e20]; exact R_32_19
  have R_43_20 : σ20.2.2.2.1 (o + 43) = upd (fun _ => 0) 0 1 := by rw [e20]; exact R_43_19
  have R_39_20 : σ20.2.2.2.1 (o + 39) = fun _ => 0 := by rw [e20]; exact R_39_19
  have R_50_20 : σ20.2.2.2.1 (o + 50) = fun _ => 0 := by rw [e20]; exact R_50_19
  have R_58_20 : σ20.2.2.2.1 (o + 58) = upd (fun _ => 0) 0 0 := by rw [e20]; exact R_58_19
  have R_69_20 : σ20.2.2.2.1 (o + 69) = upd (fun _ => 0) 0 1 := by rw [e20]; exact R_69_19
  have R_65_20 : σ20.2.2.2.1 (o + 65) = fun _ => 0 := by rw [e20]; exact R_65_19
  have R_76_20 : σ20.2.2.2.1 (o + 76) = fun _ => 0 := by rw [e20]; exact R_76_19
  have R_84_20 : σ20.2.2.2.1 (o + 84) = upd (fun _ => 0) 0 0 := by rw [e20]; exact R_84_19
  have R_95_20 : σ20.2.2.2.1 (o + 95) = upd (fun _ => 0) 0 1 := by rw [e20]; exact R_95_19
  have R_91_20 : σ20.2.2.2.1 (o + 91) = fun _ => 0 := by rw [e20]; exact R_91_19
  have R_102_20 : σ20.2.2.2.1 (o + 102) = fun _ => 0 := by rw [e20]; exact R_102_19
  have R_110_20 : σ20.2.2.2.1 (o + 110) = upd (fun _ => 0) 0 0 := by rw [e20]; exact R_110_19
  have R_121_20 : σ20.2.2.2.1 (o + 121) = upd (fun _ => 0) 0 1 := by rw [e20]; exact R_121_19
  have R_117_20 : σ20.2.2.2.1 (o + 117) = fun _ => 0 := by rw [e20]; exact R_117_19
  have R_128_20 : σ20.2.2.2.1 (o + 128) = fun _ => 0 := by rw [e20]; exact R_128_19
  have R_136_20 : σ20.2.2.2.1 (o + 136) = upd (fun _ => 0) 0 0 := by rw [e20]; exact R_136_19
  have R_147_20 : σ20.2.2.2.1 (o + 147) = upd (fun _ => 0) 0 1 := by rw [e20]; exact R_147_19
  have R_143_20 : σ20.2.2.2.1 (o + 143) = fun _ => 0 := by rw [e20]; exact R_143_19
  have R_154_20 : σ20.2.2.2.1 (o + 154) = fun _ => 0 := by rw [e20]; exact R_154_19
  have G_1_5_20 : σ20.2.2.1 (o + 1) 5 = some (o + 132) := by rw [e20]; exact g_prS
  clear K_0_19 K_1_19 K_2_19 K_28_19 K_54_19 K_80_19 K_106_19 K_132_19 G_0_2_19 G_1_0_19 G_1_1_19 G_1_2_19 G_1_3_19 G_1_4_19 S_0_19 S_1_19 S_2_19 S_3_19 S_4_19 S_5_19 R_0_19 R_1_19 R_6_19 R_17_19 R_13_19 R_24_19 R_32_19 R_43_19 R_39_19 R_50_19 R_58_19 R_69_19 R_65_19 R_76_19 R_84_19 R_95_19 R_91_19 R_102_19 R_110_19 R_121_19 R_117_19 R_128_19 R_136_19 R_147_19 R_143_19 R_154_19 N_19 T_19 O_19 X_19 e20 σ19
  show RC _ _ _ [some (.ref o), some (.int 5)] [] σ20 _
  refine c_iinc (x := 5) (L' := [some (.ref o), some (.int 6)]) rfl rfl rfl ?_
  refine c_goto ?_
  show RC _ _ _ [some (.ref o), some (.int 6)] [] σ20 _
  refine c_iload rfl ?_
  refine c_int ?_
  refine c_icmpF (show ¬ ((8 : Int32) ≤ 6) by decide) ?_
  show RC _ _ _ [some (.ref o), some (.int 6)] [] σ20 _
  refine c_aload rfl ?_
  refine c_getr (q := o + 1) K_0_20 G_0_2_20 ?_
  refine c_iload rfl ?_
  refine c_new (k := 8) (mOut_lt (ltL [o] rfl (List.forall_mem_cons.mpr ⟨by omega, (fun _ h => absurd h List.not_mem_nil)⟩)) (ltS [o + 1] rfl (List.forall_mem_cons.mpr ⟨by omega, (fun _ h => absurd h List.not_mem_nil)⟩))) O_20 ?_
  obtain ⟨σ21, e21⟩ : ∃ x, x = mNew σ20 8 0 (mFt.getD 8 []).length := ⟨_, rfl⟩
  rw [← e21, show σ20.2.1.length = o + 158 by omega]
  have N_21 : σ21.2.1.length = o + 159 := by rw [e21, len_new]; omega
  have T_21 : σ21.1 = σ.1 + 3611 := by rw [e21]; show σ20.1 + 3 = _; omega
  have O_21 : rOK σ21 := by rw [e21]; exact rOK_new O_20
  have X_21 : Ex σ σ21 o := by rw [e21]; exact X_20.new (by omega)
  have K_0_21 : σ21.2.1[o]? = some (1, 0) := by rw [e21]; exact k_new K_0_20
  have K_1_21 : σ21.2.1[o + 1]? = some (26, 8) := by rw [e21]; exact k_new K_1_20
  have K_2_21 : σ21.2.1[o + 2]? = some (8, 0) := by rw [e21]; exact k_new K_2_20
  have K_28_21 : σ21.2.1[o + 28]? = some (8, 0) := by rw [e21]; exact k_new K_28_20
  have K_54_21 : σ21.2.1[o + 54]? = some (8, 0) := by rw [e21]; exact k_new K_54_20
  have K_80_21 : σ21.2.1[o + 80]? = some (8, 0) := by rw [e21]; exact k_new K_80_20
  have K_106_21 : σ21.2.1[o + 106]? = some (8, 0) := by rw [e21]; exact k_new K_106_20
  have K_132_21 : σ21.2.1[o + 132]? = some (8, 0) := by rw [e21]; exact k_new K_132_20
  have G_0_2_21 : σ21.2.2.1 o 2 = some (o + 1) := by rw [e21]; exact g_new (by omega) G_0_2_20
  have G_1_0_21 : σ21.2.2.1 (o + 1) 0 = some (o + 2) := by rw [e21]; exact g_new (by omega) G_1_0_20
  have G_1_1_21 : σ21.2.2.1 (o + 1) 1 = some (o + 28) := by rw [e21]; exact g_new (by omega) G_1_1_20
  have G_1_2_21 : σ21.2.2.1 (o + 1) 2 = some (o + 54) := by rw [e21]; exact g_new (by omega) G_1_2_20
  have G_1_3_21 : σ21.2.2.1 (o + 1) 3 = some (o + 80) := by rw [e21]; exact g_new (by omega) G_1_3_20
  have G_1_4_21 : σ21.2.2.1 (o + 1) 4 = some (o + 106) := by rw [e21]; exact g_new (by omega) G_1_4_20
  have G_1_5_21 : σ21.2.2.1 (o + 1) 5 = some (o + 132) := by rw [e21]; exact g_new (by omega) G_1_5_20
  have S_0_21 : isWorld (mBo σ21) (o + 2) := by rw [e21]; exact isWorld_ext S_0_20 (fun q x h => k_new h) (fun q h1 h2 => mup_ne (by omega))
  have S_1_21 : isWorld (mBo σ21) (o + 28) := by rw [e21]; exact isWorld_ext S_1_20 (fun q x h => k_new h) (fun q h1 h2 => mup_ne (by omega))
  have S_2_21 : isWorld (mBo σ21) (o + 54) := by rw [e21]; exact isWorld_ext S_2_20 (fun q x h => k_new h) (fun q h1 h2 => mup_ne (by omega))
  have S_3_21 : isWorld (mBo σ21) (o + 80) := by rw [e21]; exact isWorld_ext S_3_20 (fun q x h => k_new h) (fun q h1 h2 => mup_ne (by omega))
  have S_4_21 : isWorld (mBo σ21) (o + 106) := by rw [e21]; exact isWorld_ext S_4_20 (fun q x h => k_new h) (fun q h1 h2 => mup_ne (by omega))
  have S_5_21 : isWorld (mBo σ21) (o + 132) := by rw [e21]; exact isWorld_ext S_5_20 (fun q x h => k_new h) (fun q h1 h2 => mup_ne (by omega))
  have R_0_21 : σ21.2.2.2.1 o = fun _ => 0 := by rw [e21]; exact (mup_ne (by omega)).trans R_0_20
  have R_1_21 : σ21.2.2.2.1 (o + 1) = fun _ => 0 := by rw [e21]; exact (mup_ne (by omega)).trans R_1_20
  have R_6_21 : σ21.2.2.2.1 (o + 6) = upd (fun _ => 0) 0 0 := by rw [e21]; exact (mup_ne (by omega)).trans R_6_20
  have R_17_21 : σ21.2.2.2.1 (o + 17) = upd (fun _ => 0) 0 1 := by rw [e21]; exact (mup_ne (by omega)).trans R_17_20
  have R_13_21 : σ21.2.2.2.1 (o + 13) = fun _ => 0 := by rw [e21]; exact (mup_ne (by omega)).trans R_13_20
  have R_24_21 : σ21.2.2.2.1 (o + 24) = fun _ => 0 := by rw [e21]; exact (mup_ne (by omega)).trans R_24_20
  have R_32_21 : σ21.2.2.2.1 (o + 32) = upd (fun _ => 0) 0 0 := by rw [e21]; exact (mup_ne (by omega)).trans R_32_20
  have R_43_21 : σ21.2.2.2.1 (o + 43) = upd (fun _ => 0) 0 1 := by rw [e21]; exact (mup_ne (by omega)).trans R_43_20
  have R_39_21 : σ21.2.2.2.1 (o + 39) = fun _ => 0 := by rw [e21]; exact (mup_ne (by omega)).trans R_39_20
  have R_50_21 : σ21.2.2.2.1 (o + 50) = fun _ => 0 := by rw [e21]; exact (mup_ne (by omega)).trans R_50_20
  have R_58_21 : σ21.2.2.2.1 (o + 58) = upd (fun _ => 0) 0 0 := by rw [e21]; exact (mup_ne (by omega)).trans R_58_20
  have R_69_21 : σ21.2.2.2.1 (o + 69) = upd (fun _ => 0) 0 1 := by rw [e21]; exact (mup_ne (by omega)).trans R_69_20
  have R_65_21 : σ21.2.2.2.1 (o + 65) = fun _ => 0 := by rw [e21]; exact (mup_ne (by omega)).trans R_65_20
  have R_76_21 : σ21.2.2.2.1 (o + 76) = fun _ => 0 := by rw [e21]; exact (mup_ne (by omega)).trans R_76_20
  have R_84_21 : σ21.2.2.2.1 (o + 84) = upd (fun _ => 0) 0 0 := by rw [e21]; exact (mup_ne (by omega)).trans R_84_20
  have R_95_21 : σ21.2.2.2.1 (o + 95) = upd (fun _ => 0) 0 1 := by rw [e21]; exact (mup_ne (by omega)).trans R_95_20
  have R_91_21 : σ21.2.2.2.1 (o + 91) = fun _ => 0 := by rw [e21]; exact (mup_ne (by omega)).trans R_91_20
  have R_102_21 : σ21.2.2.2.1 (o + 102) = fun _ => 0 := by rw [e21]; exact (mup_ne (by omega)).trans R_102_20
  have R_110_21 : σ21.2.2.2.1 (o + 110) = upd (fun _ => 0) 0 0 := by rw [e21]; exact (mup_ne (by omega)).trans R_110_20
  have R_121_21 : σ21.2.2.2.1 (o + 121) = upd (fun _ => 0) 0 1 := by rw [e21]; exact (mup_ne (by omega)).trans R_121_20
  have R_117_21 : σ21.2.2.2.1 (o + 117) = fun _ => 0 := by rw [e21]; exact (mup_ne (by omega)).trans R_117_20
  have R_128_21 : σ21.2.2.2.1 (o + 128) = fun _ => 0 := by rw [e21]; exact (mup_ne (by omega)).trans R_128_20
  have R_136_21 : σ21.2.2.2.1 (o + 136) = upd (fun _ => 0) 0 0 := by rw [e21]; exact (mup_ne (by omega)).trans R_136_20
  have R_147_21 : σ21.2.2.2.1 (o + 147) = upd (fun _ => 0) 0 1 := by rw [e21]; exact (mup_ne (by omega)).trans R_147_20
  have R_143_21 : σ21.2.2.2.1 (o + 143) = fun _ => 0 := by rw [e21]; exact (mup_ne (by omega)).trans R_143_20
  have R_154_21 : σ21.2.2.2.1 (o + 154) = fun _ => 0 := by rw [e21]; exact (mup_ne (by omega)).trans R_154_20
  have K_158_21 : σ21.2.1[o + 158]? = some (8, 0) := by rw [e21, ← show σ20.2.1.length = o + 158 by omega]; exact k_newS
  have R_158_21 : σ21.2.2.2.1 (o + 158) = fun _ => 0 := by rw [e21, ← show σ20.2.1.length = o + 158 by omega]; exact mup_eq
  clear K_0_20 K_1_20 K_2_20 K_28_20 K_54_20 K_80_20 K_106_20 K_132_20 G_0_2_20 G_1_0_20 G_1_1_20 G_1_2_20 G_1_3_20 G_1_4_20 G_1_5_20 S_0_20 S_1_20 S_2_20 S_3_20 S_4_20 S_5_20 R_0_20 R_1_20 R_6_20 R_17_20 R_13_20 R_24_20 R_32_20 R_43_20 R_39_20 R_50_20 R_58_20 R_69_20 R_65_20 R_76_20 R_84_20 R_95_20 R_91_20 R_102_20 R_110_20 R_121_20 R_117_20 R_128_20 R_136_20 R_147_20 R_143_20 R_154_20 N_20 T_20 O_20 X_20 e21 σ20
  show RC _ _ _ [some (.ref o), some (.int 6)] [.ref (o + 158), .int 6, .ref (o + 1)] σ21 _
  refine c_dup rfl ?_
  refine c_call (o := o + 158) (as := []) (st := [.ref (o + 158), .int 6, .ref (o + 1)]) (rfl) rfl (Nat.le_of_ble_eq_true rfl) (Or.inr rfl) (ltL [o] rfl (List.forall_mem_cons.mpr ⟨by omega, (fun _ h => absurd h List.not_mem_nil)⟩)) (ltS [o + 158, o + 1] rfl (List.forall_mem_cons.mpr ⟨by omega, (List.forall_mem_cons.mpr ⟨by omega, (fun _ h => absurd h List.not_mem_nil)⟩)⟩)) (nY8_init (by omega) O_21 R_158_21 K_158_21 (by omega)) (fun σ22 Z_22 => ?_)
  obtain ⟨E_22, NN_22, TT_22, O_22, Y0_22, Y1_22, Y2_22, Y3_22, Y4_22⟩ := Z_22
  have N_22 : σ22.2.1.length = o + 184 := by omega
  have T_22 : σ22.1 = σ.1 + 4208 := by omega
  have X_22 : Ex σ σ22 o := X_21.call E_22 (by omega)
  have K_0_22 : σ22.2.1[o]? = some (1, 0) := E_22.1 _ _ K_0_21
  have K_1_22 : σ22.2.1[o + 1]? = some (26, 8) := E_22.1 _ _ K_1_21
  have K_2_22 : σ22.2.1[o + 2]? = some (8, 0) := E_22.1 _ _ K_2_21
  have K_28_22 : σ22.2.1[o + 28]? = some (8, 0) := E_22.1 _ _ K_28_21
  have K_54_22 : σ22.2.1[o + 54]? = some (8, 0) := E_22.1 _ _ K_54_21
  have K_80_22 : σ22.2.1[o + 80]? = some (8, 0) := E_22.1 _ _ K_80_21
  have K_106_22 : σ22.2.1[o + 106]? = some (8, 0) := E_22.1 _ _ K_106_21
  have K_132_22 : σ22.2.1[o + 132]? = some (8, 0) := E_22.1 _ _ K_132_21
  have K_158_22 : σ22.2.1[o + 158]? = some (8, 0) := E_22.1 _ _ K_158_21
  have G_0_2_22 : σ22.2.2.1 o 2 = some (o + 1) := by rw [(E_22.2 _ (by omega) (by omega)).1]; exact G_0_2_21
  have G_1_0_22 : σ22.2.2.1 (o + 1) 0 = some (o + 2) := by rw [(E_22.2 _ (by omega) (by omega)).1]; exact G_1_0_21
  have G_1_1_22 : σ22.2.2.1 (o + 1) 1 = some (o + 28) := by rw [(E_22.2 _ (by omega) (by omega)).1]; exact G_1_1_21
  have G_1_2_22 : σ22.2.2.1 (o + 1) 2 = some (o + 54) := by rw [(E_22.2 _ (by omega) (by omega)).1]; exact G_1_2_21
  have G_1_3_22 : σ22.2.2.1 (o + 1) 3 = some (o + 80) := by rw [(E_22.2 _ (by omega) (by omega)).1]; exact G_1_3_21
  have G_1_4_22 : σ22.2.2.1 (o + 1) 4 = some (o + 106) := by rw [(E_22.2 _ (by omega) (by omega)).1]; exact G_1_4_21
  have G_1_5_22 : σ22.2.2.1 (o + 1) 5 = some (o + 132) := by rw [(E_22.2 _ (by omega) (by omega)).1]; exact G_1_5_21
  have S_0_22 : isWorld (mBo σ22) (o + 2) := isWorld_ext S_0_21 E_22.1 (fun q h1 h2 => (E_22.2 q (by omega) (by omega)).1)
  have S_1_22 : isWorld (mBo σ22) (o + 28) := isWorld_ext S_1_21 E_22.1 (fun q h1 h2 => (E_22.2 q (by omega) (by omega)).1)
  have S_2_22 : isWorld (mBo σ22) (o + 54) := isWorld_ext S_2_21 E_22.1 (fun q h1 h2 => (E_22.2 q (by omega) (by omega)).1)
  have S_3_22 : isWorld (mBo σ22) (o + 80) := isWorld_ext S_3_21 E_22.1 (fun q h1 h2 => (E_22.2 q (by omega) (by omega)).1)
  have S_4_22 : isWorld (mBo σ22) (o + 106) := isWorld_ext S_4_21 E_22.1 (fun q h1 h2 => (E_22.2 q (by omega) (by omega)).1)
  have S_5_22 : isWorld (mBo σ22) (o + 132) := isWorld_ext S_5_21 E_22.1 (fun q h1 h2 => (E_22.2 q (by omega) (by omega)).1)
  have R_0_22 : σ22.2.2.2.1 o = fun _ => 0 := by rw [(E_22.2 _ (by omega) (by omega)).2.1]; exact R_0_21
  have R_1_22 : σ22.2.2.2.1 (o + 1) = fun _ => 0 := by rw [(E_22.2 _ (by omega) (by omega)).2.1]; exact R_1_21
  have R_6_22 : σ22.2.2.2.1 (o + 6) = upd (fun _ => 0) 0 0 := by rw [(E_22.2 _ (by omega) (by omega)).2.1]; exact R_6_21
  have R_17_22 : σ22.2.2.2.1 (o + 17) = upd (fun _ => 0) 0 1 := by rw [(E_22.2 _ (by omega) (by omega)).2.1]; exact R_17_21
  have R_13_22 : σ22.2.2.2.1 (o + 13) = fun _ => 0 := by rw [(E_22.2 _ (by omega) (by omega)).2.1]; exact R_13_21
  have R_24_22 : σ22.2.2.2.1 (o + 24) = fun _ => 0 := by rw [(E_22.2 _ (by omega) (by omega)).2.1]; exact R_24_21
  have R_32_22 : σ22.2.2.2.1 (o + 32) = upd (fun _ => 0) 0 0 := by rw [(E_22.2 _ (by omega) (by omega)).2.1]; exact R_32_21
  have R_43_22 : σ22.2.2.2.1 (o + 43) = upd (fun _ => 0) 0 1 := by rw [(E_22.2 _ (by omega) (by omega)).2.1]; exact R_43_21
  have R_39_22 : σ22.2.2.2.1 (o + 39) = fun _ => 0 := by rw [(E_22.2 _ (by omega) (by omega)).2.1]; exact R_39_21
  have R_50_22 : σ22.2.2.2.1 (o + 50) = fun _ => 0 := by rw [(E_22.2 _ (by omega) (by omega)).2.1]; exact R_50_21
  have R_58_22 : σ22.2.2.2.1 (o + 58) = upd (fun _ => 0) 0 0 := by rw [(E_22.2 _ (by omega) (by omega)).2.1]; exact R_58_21
  have R_69_22 : σ22.2.2.2.1 (o + 69) = upd (fun _ => 0) 0 1 := by rw [(E_22.2 _ (by omega) (by omega)).2.1]; exact R_69_21
  have R_65_22 : σ22.2.2.2.1 (o + 65) = fun _ => 0 := by rw [(E_22.2 _ (by omega) (by omega)).2.1]; exact R_65_21
  have R_76_22 : σ22.2.2.2.1 (o + 76) = fun _ => 0 := by rw [(E_22.2 _ (by omega) (by omega)).2.1]; exact R_76_21
  have R_84_22 : σ22.2.2.2.1 (o + 84) = upd (fun _ => 0) 0 0 := by rw [(E_22.2 _ (by omega) (by omega)).2.1]; exact R_84_21
  have R_95_22 : σ22.2.2.2.1 (o + 95) = upd (fun _ => 0) 0 1 := by rw [(E_22.2 _ (by omega) (by omega)).2.1]; exact R_95_21
  have R_91_22 : σ22.2.2.2.1 (o + 91) = fun _ => 0 := by rw [(E_22.2 _ (by omega) (by omega)).2.1]; exact R_91_21
  have R_102_22 : σ22.2.2.2.1 (o + 102) = fun _ => 0 := by rw [(E_22.2 _ (by omega) (by omega)).2.1]; exact R_102_21
  have R_110_22 : σ22.2.2.2.1 (o + 110) = upd (fun _ => 0) 0 0 := by rw [(E_22.2 _ (by omega) (by omega)).2.1]; exact R_110_21
  have R_121_22 : σ22.2.2.2.1 (o + 121) = upd (fun _ => 0) 0 1 := by rw [(E_22.2 _ (by omega) (by omega)).2.1]; exact R_121_21
  have R_117_22 : σ22.2.2.2.1 (o + 117) = fun _ => 0 := by rw [(E_22.2 _ (by omega) (by omega)).2.1]; exact R_117_21
  have R_128_22 : σ22.2.2.2.1 (o + 128) = fun _ => 0 := by rw [(E_22.2 _ (by omega) (by omega)).2.1]; exact R_128_21
  have R_136_22 : σ22.2.2.2.1 (o + 136) = upd (fun _ => 0) 0 0 := by rw [(E_22.2 _ (by omega) (by omega)).2.1]; exact R_136_21
  have R_147_22 : σ22.2.2.2.1 (o + 147) = upd (fun _ => 0) 0 1 := by rw [(E_22.2 _ (by omega) (by omega)).2.1]; exact R_147_21
  have R_143_22 : σ22.2.2.2.1 (o + 143) = fun _ => 0 := by rw [(E_22.2 _ (by omega) (by omega)).2.1]; exact R_143_21
  have R_154_22 : σ22.2.2.2.1 (o + 154) = fun _ => 0 := by rw [(E_22.2 _ (by omega) (by omega)).2.1]; exact R_154_21
  have S_6_22 : isWorld (mBo σ22) (o + 158) := Y0_22
  have R_162_22 : σ22.2.2.2.1 (o + 162) = upd (fun _ => 0) 0 0 := Y1_22
  have R_173_22 : σ22.2.2.2.1 (o + 173) = upd (fun _ => 0) 0 1 := Y2_22
  have R_169_22 : σ22.2.2.2.1 (o + 169) = fun _ => 0 := Y3_22
  have R_180_22 : σ22.2.2.2.1 (o + 180) = fun _ => 0 := Y4_22
  clear K_0_21 K_1_21 K_2_21 K_28_21 K_54_21 K_80_21 K_106_21 K_132_21 K_158_21 G_0_2_21 G_1_0_21 G_1_1_21 G_1_2_21 G_1_3_21 G_1_4_21 G_1_5_21 S_0_21 S_1_21 S_2_21 S_3_21 S_4_21 S_5_21 R_0_21 R_1_21 R_6_21 R_17_21 R_13_21 R_24_21 R_32_21 R_43_21 R_39_21 R_50_21 R_58_21 R_69_21 R_65_21 R_76_21 R_84_21 R_95_21 R_91_21 R_102_21 R_110_21 R_121_21 R_117_21 R_128_21 R_136_21 R_147_21 R_143_21 R_154_21 R_158_21 N_21 T_21 O_21 X_21 E_22 NN_22 TT_22 Y0_22 Y1_22 Y2_22 Y3_22 Y4_22 σ21
  show RC _ _ _ [some (.ref o), some (.int 6)] [.ref (o + 158), .int 6, .ref (o + 1)] σ22 _
  refine c_ast K_1_22 (Or.inr (Or.inr rfl)) K_158_22 (lt_in 6 8 rfl rfl) ?_
  rw [show ((6 : Int32)).toNatClampNeg = 6 by decide]
  obtain ⟨σ23, e23⟩ : ∃ x, x = mPr σ22 (o + 1) 6 (some (o + 158)) := ⟨_, rfl⟩
  rw [← e23]
  have N_23 : σ23.2.1.length = o + 184 := by rw [e23]; exact N_22
  have T_23 : σ23.1 = σ.1 + 4208 := by rw [e23]; exact T_22
  have O_23 : rOK σ23 := by rw [e23]; exact rOK_pr O_22 (by omega)
  have X_23 : Ex σ σ23 o := by rw [e23]; exact X_22.pr (by omega)
  have K_0_23 : σ23.2.1[o]? = some (1, 0) := by rw [e23]; exact K_0_22
  have K_1_23 : σ23.2.1[o + 1]? = some (26, 8) := by rw [e23]; exact K_1_22
  have K_2_23 : σ23.2.1[o + 2]? = some (8, 0) := by rw [e23]; exact K_2_22
  have K_28_23 : σ23.2.1[o + 28]? = some (8, 0) := by rw [e23]; exact K_28_22
  have K_54_23 : σ23.2.1[o + 54]? = some (8, 0) := by rw [e23]; exact K_54_22
  have K_80_23 : σ23.2.1[o + 80]? = some (8, 0) := by rw [e23]; exact K_80_22
  have K_106_23 : σ23.2.1[o + 106]? = some (8, 0) := by rw [e23]; exact K_106_22
  have K_132_23 : σ23.2.1[o + 132]? = some (8, 0) := by rw [e23]; exact K_132_22
  have K_158_23 : σ23.2.1[o + 158]? = some (8, 0) := by rw [e23]; exact K_158_22
  have G_0_2_23 : σ23.2.2.1 o 2 = some (o + 1) := by rw [e23]; exact g_prO (by omega) G_0_2_22
  have G_1_0_23 : σ23.2.2.1 (o + 1) 0 = some (o + 2) := by rw [e23]; exact g_prK (by decide) G_1_0_22
  have G_1_1_23 : σ23.2.2.1 (o + 1) 1 = some (o + 28) := by rw [e23]; exact g_prK (by decide) G_1_1_22
  have G_1_2_23 : σ23.2.2.1 (o + 1) 2 = some (o + 54) := by rw [e23]; exact g_prK (by decide) G_1_2_22
  have G_1_3_23 : σ23.2.2.1 (o + 1) 3 = some (o + 80) := by rw [e23]; exact g_prK (by decide) G_1_3_22
  have G_1_4_23 : σ23.2.2.1 (o + 1) 4 = some (o + 106) := by rw [e23]; exact g_prK (by decide) G_1_4_22
  have G_1_5_23 : σ23.2.2.1 (o + 1) 5 = some (o + 132) := by rw [e23]; exact g_prK (by decide) G_1_5_22
  have S_0_23 : isWorld (mBo σ23) (o + 2) := by rw [e23]; exact isWorld_ext S_0_22 (fun q x h => h) (fun q h1 h2 => mup_ne (by omega))
  have S_1_23 : isWorld (mBo σ23) (o + 28) := by rw [e23]; exact isWorld_ext S_1_22 (fun q x h => h) (fun q h1 h2 => mup_ne (by omega))
  have S_2_23 : isWorld (mBo σ23) (o + 54) := by rw [e23]; exact isWorld_ext S_2_22 (fun q x h => h) (fun q h1 h2 => mup_ne (by omega))
  have S_3_23 : isWorld (mBo σ23) (o + 80) := by rw [e23]; exact isWorld_ext S_3_22 (fun q x h => h) (fun q h1 h2 => mup_ne (by omega))
  have S_4_23 : isWorld (mBo σ23) (o + 106) := by rw [e23]; exact isWorld_ext S_4_22 (fun q x h => h) (fun q h1 h2 => mup_ne (by omega))
  have S_5_23 : isWorld (mBo σ23) (o + 132) := by rw [e23]; exact isWorld_ext S_5_22 (fun q x h => h) (fun q h1 h2 => mup_ne (by omega))
  have S_6_23 : isWorld (mBo σ23) (o + 158) := by rw [e23]; exact isWorld_ext S_6_22 (fun q x h => h) (fun q h1 h2 => mup_ne (by omega))
  have R_0_23 : σ23.2.2.2.1 o = fun _ => 0 := by rw [e23]; exact R_0_22
  have R_1_23 : σ23.2.2.2.1 (o + 1) = fun _ => 0 := by rw [e23]; exact R_1_22
  have R_6_23 : σ23.2.2.2.1 (o + 6) = upd (fun _ => 0) 0 0 := by rw [e23]; exact R_6_22
  have R_17_23 : σ23.2.2.2.1 (o + 17) = upd (fun _ => 0) 0 1 := by rw [e23]; exact R_17_22
  have R_13_23 : σ23.2.2.2.1 (o + 13) = fun _ => 0 := by rw [e23]; exact R_13_22
  have R_24_23 : σ23.2.2.2.1 (o + 24) = fun _ => 0 := by rw [e23]; exact R_24_22
  have R_32_23 : σ23.2.2.2.1 (o + 32) = upd (fun _ => 0) 0 0 := by rw [e23]; exact R_32_22
  have R_43_23 : σ23.2.2.2.1 (o + 43) = upd (fun _ => 0) 0 1 := by rw [e23]; exact R_43_22
  have R_39_23 : σ23.2.2.2.1 (o + 39) = fun _ => 0 := by rw [e23]; exact R_39_22
  have R_50_23 : σ23.2.2.2.1 (o + 50) = fun _ => 0 := by rw [e23]; exact R_50_22
  have R_58_23 : σ23.2.2.2.1 (o + 58) = upd (fun _ => 0) 0 0 := by rw [e23]; exact R_58_22
  have R_69_23 : σ23.2.2.2.1 (o + 69) = upd (fun _ => 0) 0 1 := by rw [e23]; exact R_69_22
  have R_65_23 : σ23.2.2.2.1 (o + 65) = fun _ => 0 := by rw [e23]; exact R_65_22
  have R_76_23 : σ23.2.2.2.1 (o + 76) = fun _ => 0 := by rw [e23]; exact R_76_22
  have R_84_23 : σ23.2.2.2.1 (o + 84) = upd (fun _ => 0) 0 0 := by rw [e23]; exact R_84_22
  have R_95_23 : σ23.2.2.2.1 (o + 95) = upd (fun _ => 0) 0 1 := by rw [e23]; exact R_95_22
  have R_91_23 : σ23.2.2.2.1 (o + 91) = fun _ => 0 := by rw [e23]; exact R_91_22
  have R_102_23 : σ23.2.2.2.1 (o + 102) = fun _ => 0 := by rw [e23]; exact R_102_22
  have R_110_23 : σ23.2.2.2.1 (o + 110) = upd (fun _ => 0) 0 0 := by rw [e23]; exact R_110_22
  have R_121_23 : σ23.2.2.2.1 (o + 121) = upd (fun _ => 0) 0 1 := by rw [e23]; exact R_121_22
  have R_117_23 : σ23.2.2.2.1 (o + 117) = fun _ => 0 := by rw [e23]; exact R_117_22
  have R_128_23 : σ23.2.2.2.1 (o + 128) = fun _ => 0 := by rw [e23]; exact R_128_22
  have R_136_23 : σ23.2.2.2.1 (o + 136) = upd (fun _ => 0) 0 0 := by rw [e23]; exact R_136_22
  have R_147_23 : σ23.2.2.2.1 (o + 147) = upd (fun _ => 0) 0 1 := by rw [e23]; exact R_147_22
  have R_143_23 : σ23.2.2.2.1 (o + 143) = fun _ => 0 := by rw [e23]; exact R_143_22
  have R_154_23 : σ23.2.2.2.1 (o + 154) = fun _ => 0 := by rw [e23]; exact R_154_22
  have R_162_23 : σ23.2.2.2.1 (o + 162) = upd (fun _ => 0) 0 0 := by rw [e23]; exact R_162_22
  have R_173_23 : σ23.2.2.2.1 (o + 173) = upd (fun _ => 0) 0 1 := by rw [e23]; exact R_173_22
  have R_169_23 : σ23.2.2.2.1 (o + 169) = fun _ => 0 := by rw [e23]; exact R_169_22
  have R_180_23 : σ23.2.2.2.1 (o + 180) = fun _ => 0 := by rw [e23]; exact R_180_22
  have G_1_6_23 : σ23.2.2.1 (o + 1) 6 = some (o + 158) := by rw [e23]; exact g_prS
  clear K_0_22 K_1_22 K_2_22 K_28_22 K_54_22 K_80_22 K_106_22 K_132_22 K_158_22 G_0_2_22 G_1_0_22 G_1_1_22 G_1_2_22 G_1_3_22 G_1_4_22 G_1_5_22 S_0_22 S_1_22 S_2_22 S_3_22 S_4_22 S_5_22 S_6_22 R_0_22 R_1_22 R_6_22 R_17_22 R_13_22 R_24_22 R_32_22 R_43_22 R_39_22 R_50_22 R_58_22 R_69_22 R_65_22 R_76_22 R_84_22 R_95_22 R_91_22 R_102_22 R_110_22 R_121_22 R_117_22 R_128_22 R_136_22 R_147_22 R_143_22 R_154_22 R_162_22 R_173_22 R_169_22 R_180_22 N_22 T_22 O_22 X_22 e23 σ22
  show RC _ _ _ [some (.ref o), some (.int 6)] [] σ23 _
  refine c_iinc (x := 6) (L' := [some (.ref o), some (.int 7)]) rfl rfl rfl ?_
  refine c_goto ?_
  show RC _ _ _ [some (.ref o), some (.int 7)] [] σ23 _
  refine c_iload rfl ?_
  refine c_int ?_
  refine c_icmpF (show ¬ ((8 : Int32) ≤ 7) by decide) ?_
  show RC _ _ _ [some (.ref o), some (.int 7)] [] σ23 _
  refine c_aload rfl ?_
  refine c_getr (q := o + 1) K_0_23 G_0_2_23 ?_
  refine c_iload rfl ?_
  refine c_new (k := 8) (mOut_lt (ltL [o] rfl (List.forall_mem_cons.mpr ⟨by omega, (fun _ h => absurd h List.not_mem_nil)⟩)) (ltS [o + 1] rfl (List.forall_mem_cons.mpr ⟨by omega, (fun _ h => absurd h List.not_mem_nil)⟩))) O_23 ?_
  obtain ⟨σ24, e24⟩ : ∃ x, x = mNew σ23 8 0 (mFt.getD 8 []).length := ⟨_, rfl⟩
  rw [← e24, show σ23.2.1.length = o + 184 by omega]
  have N_24 : σ24.2.1.length = o + 185 := by rw [e24, len_new]; omega
  have T_24 : σ24.1 = σ.1 + 4211 := by rw [e24]; show σ23.1 + 3 = _; omega
  have O_24 : rOK σ24 := by rw [e24]; exact rOK_new O_23
  have X_24 : Ex σ σ24 o := by rw [e24]; exact X_23.new (by omega)
  have K_0_24 : σ24.2.1[o]? = some (1, 0) := by rw [e24]; exact k_new K_0_23
  have K_1_24 : σ24.2.1[o + 1]? = some (26, 8) := by rw [e24]; exact k_new K_1_23
  have K_2_24 : σ24.2.1[o + 2]? = some (8, 0) := by rw [e24]; exact k_new K_2_23
  have K_28_24 : σ24.2.1[o + 28]? = some (8, 0) := by rw [e24]; exact k_new K_28_23
  have K_54_24 : σ24.2.1[o + 54]? = some (8, 0) := by rw [e24]; exact k_new K_54_23
  have K_80_24 : σ24.2.1[o + 80]? = some (8, 0) := by rw [e24]; exact k_new K_80_23
  have K_106_24 : σ24.2.1[o + 106]? = some (8, 0) := by rw [e24]; exact k_new K_106_23
  have K_132_24 : σ24.2.1[o + 132]? = some (8, 0) := by rw [e24]; exact k_new K_132_23
  have K_158_24 : σ24.2.1[o + 158]? = some (8, 0) := by rw [e24]; exact k_new K_158_23
  have G_0_2_24 : σ24.2.2.1 o 2 = some (o + 1) := by rw [e24]; exact g_new (by omega) G_0_2_23
  have G_1_0_24 : σ24.2.2.1 (o + 1) 0 = some (o + 2) := by rw [e24]; exact g_new (by omega) G_1_0_23
  have G_1_1_24 : σ24.2.2.1 (o + 1) 1 = some (o + 28) := by rw [e24]; exact g_new (by omega) G_1_1_23
  have G_1_2_24 : σ24.2.2.1 (o + 1) 2 = some (o + 54) := by rw [e24]; exact g_new (by omega) G_1_2_23
  have G_1_3_24 : σ24.2.2.1 (o + 1) 3 = some (o + 80) := by rw [e24]; exact g_new (by omega) G_1_3_23
  have G_1_4_24 : σ24.2.2.1 (o + 1) 4 = some (o + 106) := by rw [e24]; exact g_new (by omega) G_1_4_23
  have G_1_5_24 : σ24.2.2.1 (o + 1) 5 = some (o + 132) := by rw [e24]; exact g_new (by omega) G_1_5_23
  have G_1_6_24 : σ24.2.2.1 (o + 1) 6 = some (o + 158) := by rw [e24]; exact g_new (by omega) G_1_6_23
  have S_0_24 : isWorld (mBo σ24) (o + 2) := by rw [e24]; exact isWorld_ext S_0_23 (fun q x h => k_new h) (fun q h1 h2 => mup_ne (by omega))
  have S_1_24 : isWorld (mBo σ24) (o + 28) := by rw [e24]; exact isWorld_ext S_1_23 (fun q x h => k_new h) (fun q h1 h2 => mup_ne (by omega))
  have S_2_24 : isWorld (mBo σ24) (o + 54) := by rw [e24]; exact isWorld_ext S_2_23 (fun q x h => k_new h) (fun q h1 h2 => mup_ne (by omega))
  have S_3_24 : isWorld (mBo σ24) (o + 80) := by rw [e24]; exact isWorld_ext S_3_23 (fun q x h => k_new h) (fun q h1 h2 => mup_ne (by omega))
  have S_4_24 : isWorld (mBo σ24) (o + 106) := by rw [e24]; exact isWorld_ext S_4_23 (fun q x h => k_new h) (fun q h1 h2 => mup_ne (by omega))
  have S_5_24 : isWorld (mBo σ24) (o + 132) := by rw [e24]; exact isWorld_ext S_5_23 (fun q x h => k_new h) (fun q h1 h2 => mup_ne (by omega))
  have S_6_24 : isWorld (mBo σ24) (o + 158) := by rw [e24]; exact isWorld_ext S_6_23 (fun q x h => k_new h) (fun q h1 h2 => mup_ne (by omega))
  have R_0_24 : σ24.2.2.2.1 o = fun _ => 0 := by rw [e24]; exact (mup_ne (by omega)).trans R_0_23
  have R_1_24 : σ24.2.2.2.1 (o + 1) = fun _ => 0 := by rw [e24]; exact (mup_ne (by omega)).trans R_1_23
  have R_6_24 : σ24.2.2.2.1 (o + 6) = upd (fun _ => 0) 0 0 := by rw [e24]; exact (mup_ne (by omega)).trans R_6_23
  have R_17_24 : σ24.2.2.2.1 (o + 17) = upd (fun _ => 0) 0 1 := by rw [e24]; exact (mup_ne (by omega)).trans R_17_23
  have R_13_24 : σ24.2.2.2.1 (o + 13) = fun _ => 0 := by rw [e24]; exact (mup_ne (by omega)).trans R_13_23
  have R_24_24 : σ24.2.2.2.1 (o + 24) = fun _ => 0 := by rw [e24]; exact (mup_ne (by omega)).trans R_24_23
  have R_32_24 : σ24.2.2.2.1 (o + 32) = upd (fun _ => 0) 0 0 := by rw [e24]; exact (mup_ne (by omega)).trans R_32_23
  have R_43_24 : σ24.2.2.2.1 (o + 43) = upd (fun _ => 0) 0 1 := by rw [e24]; exact (mup_ne (by omega)).trans R_43_23
  have R_39_24 : σ24.2.2.2.1 (o + 39) = fun _ => 0 := by rw [e24]; exact (mup_ne (by omega)).trans R_39_23
  have R_50_24 : σ24.2.2.2.1 (o + 50) = fun _ => 0 := by rw [e24]; exact (mup_ne (by omega)).trans R_50_23
  have R_58_24 : σ24.2.2.2.1 (o + 58) = upd (fun _ => 0) 0 0 := by rw [e24]; exact (mup_ne (by omega)).trans R_58_23
  have R_69_24 : σ24.2.2.2.1 (o + 69) = upd (fun _ => 0) 0 1 := by rw [e24]; exact (mup_ne (by omega)).trans R_69_23
  have R_65_24 : σ24.2.2.2.1 (o + 65) = fun _ => 0 := by rw [e24]; exact (mup_ne (by omega)).trans R_65_23
  have R_76_24 : σ24.2.2.2.1 (o + 76) = fun _ => 0 := by rw [e24]; exact (mup_ne (by omega)).trans R_76_23
  have R_84_24 : σ24.2.2.2.1 (o + 84) = upd (fun _ => 0) 0 0 := by rw [e24]; exact (mup_ne (by omega)).trans R_84_23
  have R_95_24 : σ24.2.2.2.1 (o + 95) = upd (fun _ => 0) 0 1 := by rw [e24]; exact (mup_ne (by omega)).trans R_95_23
  have R_91_24 : σ24.2.2.2.1 (o + 91) = fun _ => 0 := by rw [e24]; exact (mup_ne (by omega)).trans R_91_23
  have R_102_24 : σ24.2.2.2.1 (o + 102) = fun _ => 0 := by rw [e24]; exact (mup_ne (by omega)).trans R_102_23
  have R_110_24 : σ24.2.2.2.1 (o + 110) = upd (fun _ => 0) 0 0 := by rw [e24]; exact (mup_ne (by omega)).trans R_110_23
  have R_121_24 : σ24.2.2.2.1 (o + 121) = upd (fun _ => 0) 0 1 := by rw [e24]; exact (mup_ne (by omega)).trans R_121_23
  have R_117_24 : σ24.2.2.2.1 (o + 117) = fun _ => 0 := by rw [e24]; exact (mup_ne (by omega)).trans R_117_23
  have R_128_24 : σ24.2.2.2.1 (o + 128) = fun _ => 0 := by rw [e24]; exact (mup_ne (by omega)).trans R_128_23
  have R_136_24 : σ24.2.2.2.1 (o + 136) = upd (fun _ => 0) 0 0 := by rw [e24]; exact (mup_ne (by omega)).trans R_136_23
  have R_147_24 : σ24.2.2.2.1 (o + 147) = upd (fun _ => 0) 0 1 := by rw [e24]; exact (mup_ne (by omega)).trans R_147_23
  have R_143_24 : σ24.2.2.2.1 (o + 143) = fun _ => 0 := by rw [e24]; exact (mup_ne (by omega)).trans R_143_23
  have R_154_24 : σ24.2.2.2.1 (o + 154) = fun _ => 0 := by rw [e24]; exact (mup_ne (by omega)).trans R_154_23
  have R_162_24 : σ24.2.2.2.1 (o + 162) = upd (fun _ => 0) 0 0 := by rw [e24]; exact (mup_ne (by omega)).trans R_162_23
  have R_173_24 : σ24.2.2.2.1 (o + 173) = upd (fun _ => 0) 0 1 := by rw [e24]; exact (mup_ne (by omega)).trans R_173_23
  have R_169_24 : σ24.2.2.2.1 (o + 169) = fun _ => 0 := by rw [e24]; exact (mup_ne (by omega)).trans R_169_23
  have R_180_24 : σ24.2.2.2.1 (o + 180) = fun _ => 0 := by rw [e24]; exact (mup_ne (by omega)).trans R_180_23
  have K_184_24 : σ24.2.1[o + 184]? = some (8, 0) := by rw [e24, ← show σ23.2.1.length = o + 184 by omega]; exact k_newS
  have R_184_24 : σ24.2.2.2.1 (o + 184) = fun _ => 0 := by rw [e24, ← show σ23.2.1.length = o + 184 by omega]; exact mup_eq
  clear K_0_23 K_1_23 K_2_23 K_28_23 K_54_23 K_80_23 K_106_23 K_132_23 K_158_23 G_0_2_23 G_1_0_23 G_1_1_23 G_1_2_23 G_1_3_23 G_1_4_23 G_1_5_23 G_1_6_23 S_0_23 S_1_23 S_2_23 S_3_23 S_4_23 S_5_23 S_6_23 R_0_23 R_1_23 R_6_23 R_17_23 R_13_23 R_24_23 R_32_23 R_43_23 R_39_23 R_50_23 R_58_23 R_69_23 R_65_23 R_76_23 R_84_23 R_95_23 R_91_23 R_102_23 R_110_23 R_121_23 R_117_23 R_128_23 R_136_23 R_147_23 R_143_23 R_154_23 R_162_23 R_173_23 R_169_23 R_180_23 N_23 T_23 O_23 X_23 e24 σ23
  show RC _ _ _ [some (.ref o), some (.int 7)] [.ref (o + 184), .int 7, .ref (o + 1)] σ24 _
  refine c_dup rfl ?_
  refine c_call (o := o + 184) (as := []) (st := [.ref (o + 184), .int 7, .ref (o + 1)]) (rfl) rfl (Nat.le_of_ble_eq_true rfl) (Or.inr rfl) (ltL [o] rfl (List.forall_mem_cons.mpr ⟨by omega, (fun _ h => absurd h List.not_mem_nil)⟩)) (ltS [o + 184, o + 1] rfl (List.forall_mem_cons.mpr ⟨by omega, (List.forall_mem_cons.mpr ⟨by omega, (fun _ h => absurd h List.not_mem_nil)⟩)⟩)) (nY8_init (by omega) O_24 R_184_24 K_184_24 (by omega)) (fun σ25 Z_25 => ?_)
  obtain ⟨E_25, NN_25, TT_25, O_25, Y0_25, Y1_25, Y2_25, Y3_25, Y4_25⟩ := Z_25
  have N_25 : σ25.2.1.length = o + 210 := by omega
  have T_25 : σ25.1 = σ.1 + 4808 := by omega
  have X_25 : Ex σ σ25 o := X_24.call E_25 (by omega)
  have K_0_25 : σ25.2.1[o]? = some (1, 0) := E_25.1 _ _ K_0_24
  have K_1_25 : σ25.2.1[o + 1]? = some (26, 8) := E_25.1 _ _ K_1_24
  have K_2_25 : σ25.2.1[o + 2]? = some (8, 0) := E_25.1 _ _ K_2_24
  have K_28_25 : σ25.2.1[o + 28]? = some (8, 0) := E_25.1 _ _ K_28_24
  have K_54_25 : σ25.2.1[o + 54]? = some (8, 0) := E_25.1 _ _ K_54_24
  have K_80_25 : σ25.2.1[o + 80]? = some (8, 0) := E_25.1 _ _ K_80_24
  have K_106_25 : σ25.2.1[o + 106]? = some (8, 0) := E_25.1 _ _ K_106_24
  have K_132_25 : σ25.2.1[o + 132]? = some (8, 0) := E_25.1 _ _ K_132_24
  have K_158_25 : σ25.2.1[o + 158]? = some (8, 0) := E_25.1 _ _ K_158_24
  have K_184_25 : σ25.2.1[o + 184]? = some (8, 0) := E_25.1 _ _ K_184_24
  have G_0_2_25 : σ25.2.2.1 o 2 = some (o + 1) := by rw [(E_25.2 _ (by omega) (by omega)).1]; exact G_0_2_24
  have G_1_0_25 : σ25.2.2.1 (o + 1) 0 = some (o + 2) := by rw [(E_25.2 _ (by omega) (by omega)).1]; exact G_1_0_24
  have G_1_1_25 : σ25.2.2.1 (o + 1) 1 = some (o + 28) := by rw [(E_25.2 _ (by omega) (by omega)).1]; exact G_1_1_24
  have G_1_2_25 : σ25.2.2.1 (o + 1) 2 = some (o + 54) := by rw [(E_25.2 _ (by omega) (by omega)).1]; exact G_1_2_24
  have G_1_3_25 : σ25.2.2.1 (o + 1) 3 = some (o + 80) := by rw [(E_25.2 _ (by omega) (by omega)).1]; exact G_1_3_24
  have G_1_4_25 : σ25.2.2.1 (o + 1) 4 = some (o + 106) := by rw [(E_25.2 _ (by omega) (by omega)).1]; exact G_1_4_24
  have G_1_5_25 : σ25.2.2.1 (o + 1) 5 = some (o + 132) := by rw [(E_25.2 _ (by omega) (by omega)).1]; exact G_1_5_24
  have G_1_6_25 : σ25.2.2.1 (o + 1) 6 = some (o + 158) := by rw [(E_25.2 _ (by omega) (by omega)).1]; exact G_1_6_24
  have S_0_25 : isWorld (mBo σ25) (o + 2) := isWorld_ext S_0_24 E_25.1 (fun q h1 h2 => (E_25.2 q (by omega) (by omega)).1)
  have S_1_25 : isWorld (mBo σ25) (o + 28) := isWorld_ext S_1_24 E_25.1 (fun q h1 h2 => (E_25.2 q (by omega) (by omega)).1)
  have S_2_25 : isWorld (mBo σ25) (o + 54) := isWorld_ext S_2_24 E_25.1 (fun q h1 h2 => (E_25.2 q (by omega) (by omega)).1)
  have S_3_25 : isWorld (mBo σ25) (o + 80) := isWorld_ext S_3_24 E_25.1 (fun q h1 h2 => (E_25.2 q (by omega) (by omega)).1)
  have S_4_25 : isWorld (mBo σ25) (o + 106) := isWorld_ext S_4_24 E_25.1 (fun q h1 h2 => (E_25.2 q (by omega) (by omega)).1)
  have S_5_25 : isWorld (mBo σ25) (o + 132) := isWorld_ext S_5_24 E_25.1 (fun q h1 h2 => (E_25.2 q (by omega) (by omega)).1)
  have S_6_25 : isWorld (mBo σ25) (o + 158) := isWorld_ext S_6_24 E_25.1 (fun q h1 h2 => (E_25.2 q (by omega) (by omega)).1)
  have R_0_25 : σ25.2.2.2.1 o = fun _ => 0 := by rw [(E_25.2 _ (by omega) (by omega)).2.1]; exact R_0_24
  have R_1_25 : σ25.2.2.2.1 (o + 1) = fun _ => 0 := by rw [(E_25.2 _ (by omega) (by omega)).2.1]; exact R_1_24
  have R_6_25 : σ25.2.2.2.1 (o + 6) = upd (fun _ => 0) 0 0 := by rw [(E_25.2 _ (by omega) (by omega)).2.1]; exact R_6_24
  have R_17_25 : σ25.2.2.2.1 (o + 17) = upd (fun _ => 0) 0 1 := by rw [(E_25.2 _ (by omega) (by omega)).2.1]; exact R_17_24
  have R_13_25 : σ25.2.2.2.1 (o + 13) = fun _ => 0 := by rw [(E_25.2 _ (by omega) (by omega)).2.1]; exact R_13_24
  have R_24_25 : σ25.2.2.2.1 (o + 24) = fun _ => 0 := by rw [(E_25.2 _ (by omega) (by omega)).2.1]; exact R_24_24
  have R_32_25 : σ25.2.2.2.1 (o + 32) = upd (fun _ => 0) 0 0 := by rw [(E_25.2 _ (by omega) (by omega)).2.1]; exact R_32_24
  have R_43_25 : σ25.2.2.2.1 (o + 43) = upd (fun _ => 0) 0 1 := by rw [(E_25.2 _ (by omega) (by omega)).2.1]; exact R_43_24
  have R_39_25 : σ25.2.2.2.1 (o + 39) = fun _ => 0 := by rw [(E_25.2 _ (by omega) (by omega)).2.1]; exact R_39_24
  have R_50_25 : σ25.2.2.2.1 (o + 50) = fun _ => 0 := by rw [(E_25.2 _ (by omega) (by omega)).2.1]; exact R_50_24
  have R_58_25 : σ25.2.2.2.1 (o + 58) = upd (fun _ => 0) 0 0 := by rw [(E_25.2 _ (by omega) (by omega)).2.1]; exact R_58_24
  have R_69_25 : σ25.2.2.2.1 (o + 69) = upd (fun _ => 0) 0 1 := by rw [(E_25.2 _ (by omega) (by omega)).2.1]; exact R_69_24
  have R_65_25 : σ25.2.2.2.1 (o + 65) = fun _ => 0 := by rw [(E_25.2 _ (by omega) (by omega)).2.1]; exact R_65_24
  have R_76_25 : σ25.2.2.2.1 (o + 76) = fun _ => 0 := by rw [(E_25.2 _ (by omega) (by omega)).2.1]; exact R_76_24
  have R_84_25 : σ25.2.2.2.1 (o + 84) = upd (fun _ => 0) 0 0 := by rw [(E_25.2 _ (by omega) (by omega)).2.1]; exact R_84_24
  have R_95_25 : σ25.2.2.2.1 (o + 95) = upd (fun _ => 0) 0 1 := by rw [(E_25.2 _ (by omega) (by omega)).2.1]; exact R_95_24
  have R_91_25 : σ25.2.2.2.1 (o + 91) = fun _ => 0 := by rw [(E_25.2 _ (by omega) (by omega)).2.1]; exact R_91_24
  have R_102_25 : σ25.2.2.2.1 (o + 102) = fun _ => 0 := by rw [(E_25.2 _ (by omega) (by omega)).2.1]; exact R_102_24
  have R_110_25 : σ25.2.2.2.1 (o + 110) = upd (fun _ => 0) 0 0 := by rw [(E_25.2 _ (by omega) (by omega)).2.1]; exact R_110_24
  have R_121_25 : σ25.2.2.2.1 (o + 121) = upd (fun _ => 0) 0 1 := by rw [(E_25.2 _ (by omega) (by omega)).2.1]; exact R_121_24
  have R_117_25 : σ25.2.2.2.1 (o + 117) = fun _ => 0 := by rw [(E_25.2 _ (by omega) (by omega)).2.1]; exact R_117_24
  have R_128_25 : σ25.2.2.2.1 (o + 128) = fun _ => 0 := by rw [(E_25.2 _ (by omega) (by omega)).2.1]; exact R_128_24
  have R_136_25 : σ25.2.2.2.1 (o + 136) = upd (fun _ => 0) 0 0 := by rw [(E_25.2 _ (by omega) (by omega)).2.1]; exact R_136_24
  have R_147_25 : σ25.2.2.2.1 (o + 147) = upd (fun _ => 0) 0 1 := by rw [(E_25.2 _ (by omega) (by omega)).2.1]; exact R_147_24
  have R_143_25 : σ25.2.2.2.1 (o + 143) = fun _ => 0 := by rw [(E_25.2 _ (by omega) (by omega)).2.1]; exact R_143_24
  have R_154_25 : σ25.2.2.2.1 (o + 154) = fun _ => 0 := by rw [(E_25.2 _ (by omega) (by omega)).2.1]; exact R_154_24
  have R_162_25 : σ25.2.2.2.1 (o + 162) = upd (fun _ => 0) 0 0 := by rw [(E_25.2 _ (by omega) (by omega)).2.1]; exact R_162_24
  have R_173_25 : σ25.2.2.2.1 (o + 173) = upd (fun _ => 0) 0 1 := by rw [(E_25.2 _ (by omega) (by omega)).2.1]; exact R_173_24
  have R_169_25 : σ25.2.2.2.1 (o + 169) = fun _ => 0 := by rw [(E_25.2 _ (by omega) (by omega)).2.1]; exact R_169_24
  have R_180_25 : σ25.2.2.2.1 (o + 180) = fun _ => 0 := by rw [(E_25.2 _ (by omega) (by omega)).2.1]; exact R_180_24
  have S_7_25 : isWorld (mBo σ25) (o + 184) := Y0_25
  have R_188_25 : σ25.2.2.2.1 (o + 188) = upd (fun _ => 0) 0 0 := Y1_25
  have R_199_25 : σ25.2.2.2.1 (o + 199) = upd (fun _ => 0) 0 1 := Y2_25
  have R_195_25 : σ25.2.2.2.1 (o + 195) = fun _ => 0 := Y3_25
  have R_206_25 : σ25.2.2.2.1 (o + 206) = fun _ => 0 := Y4_25
  clear K_0_24 K_1_24 K_2_24 K_28_24 K_54_24 K_80_24 K_106_24 K_132_24 K_158_24 K_184_24 G_0_2_24 G_1_0_24 G_1_1_24 G_1_2_24 G_1_3_24 G_1_4_24 G_1_5_24 G_1_6_24 S_0_24 S_1_24 S_2_24 S_3_24 S_4_24 S_5_24 S_6_24 R_0_24 R_1_24 R_6_24 R_17_24 R_13_24 R_24_24 R_32_24 R_43_24 R_39_24 R_50_24 R_58_24 R_69_24 R_65_24 R_76_24 R_84_24 R_95_24 R_91_24 R_102_24 R_110_24 R_121_24 R_117_24 R_128_24 R_136_24 R_147_24 R_143_24 R_154_24 R_162_24 R_173_24 R_169_24 R_180_24 R_184_24 N_24 T_24 O_24 X_24 E_25 NN_25 TT_25 Y0_25 Y1_25 Y2_25 Y3_25 Y4_25 σ24
  show RC _ _ _ [some (.ref o), some (.int 7)] [.ref (o + 184), .int 7, .ref (o + 1)] σ25 _
  refine c_ast K_1_25 (Or.inr (Or.inr rfl)) K_184_25 (lt_in 7 8 rfl rfl) ?_
  rw [show ((7 : Int32)).toNatClampNeg = 7 by decide]
  obtain ⟨σ26, e26⟩ : ∃ x, x = mPr σ25 (o + 1) 7 (some (o + 184)) := ⟨_, rfl⟩
  rw [← e26]
  have N_26 : σ26.2.1.length = o + 210 := by rw [e26]; exact N_25
  have T_26 : σ26.1 = σ.1 + 4808 := by rw [e26]; exact T_25
  have O_26 : rOK σ26 := by rw [e26]; exact rOK_pr O_25 (by omega)
  have X_26 : Ex σ σ26 o := by rw [e26]; exact X_25.pr (by omega)
  have K_0_26 : σ26.2.1[o]? = some (1, 0) := by rw [e26]; exact K_0_25
  have K_1_26 : σ26.2.1[o + 1]? = some (26, 8) := by rw [e26]; exact K_1_25
  have K_2_26 : σ26.2.1[o + 2]? = some (8, 0) := by rw [e26]; exact K_2_25
  have K_28_26 : σ26.2.1[o + 28]? = some (8, 0) := by rw [e26]; exact K_28_25
  have K_54_26 : σ26.2.1[o + 54]? = some (8, 0) := by rw [e26]; exact K_54_25
  have K_80_26 : σ26.2.1[o + 80]? = some (8, 0) := by rw [e26]; exact K_80_25
  have K_106_26 : σ26.2.1[o + 106]? = some (8, 0) := by rw [e26]; exact K_106_25
  have K_132_26 : σ26.2.1[o + 132]? = some (8, 0) := by rw [e26]; exact K_132_25
  have K_158_26 : σ26.2.1[o + 158]? = some (8, 0) := by rw [e26]; exact K_158_25
  have K_184_26 : σ26.2.1[o + 184]? = some (8, 0) := by rw [e26]; exact K_184_25
  have G_0_2_26 : σ26.2.2.1 o 2 = some (o + 1) := by rw [e26]; exact g_prO (by omega) G_0_2_25
  have G_1_0_26 : σ26.2.2.1 (o + 1) 0 = some (o + 2) := by rw [e26]; exact g_prK (by decide) G_1_0_25
  have G_1_1_26 : σ26.2.2.1 (o + 1) 1 = some (o + 28) := by rw [e26]; exact g_prK (by decide) G_1_1_25
  have G_1_2_26 : σ26.2.2.1 (o + 1) 2 = some (o + 54) := by rw [e26]; exact g_prK (by decide) G_1_2_25
  have G_1_3_26 : σ26.2.2.1 (o + 1) 3 = some (o + 80) := by rw [e26]; exact g_prK (by decide) G_1_3_25
  have G_1_4_26 : σ26.2.2.1 (o + 1) 4 = some (o + 106) := by rw [e26]; exact g_prK (by decide) G_1_4_25
  have G_1_5_26 : σ26.2.2.1 (o + 1) 5 = some (o + 132) := by rw [e26]; exact g_prK (by decide) G_1_5_25
  have G_1_6_26 : σ26.2.2.1 (o + 1) 6 = some (o + 158) := by rw [e26]; exact g_prK (by decide) G_1_6_25
  have S_0_26 : isWorld (mBo σ26) (o + 2) := by rw [e26]; exact isWorld_ext S_0_25 (fun q x h => h) (fun q h1 h2 => mup_ne (by omega))
  have S_1_26 : isWorld (mBo σ26) (o + 28) := by rw [e26]; exact isWorld_ext S_1_25 (fun q x h => h) (fun q h1 h2 => mup_ne (by omega))
  have S_2_26 : isWorld (mBo σ26) (o + 54) := by rw [e26]; exact isWorld_ext S_2_25 (fun q x h => h) (fun q h1 h2 => mup_ne (by omega))
  have S_3_26 : isWorld (mBo σ26) (o + 80) := by rw [e26]; exact isWorld_ext S_3_25 (fun q x h => h) (fun q h1 h2 => mup_ne (by omega))
  have S_4_26 : isWorld (mBo σ26) (o + 106) := by rw [e26]; exact isWorld_ext S_4_25 (fun q x h => h) (fun q h1 h2 => mup_ne (by omega))
  have S_5_26 : isWorld (mBo σ26) (o + 132) := by rw [e26]; exact isWorld_ext S_5_25 (fun q x h => h) (fun q h1 h2 => mup_ne (by omega))
  have S_6_26 : isWorld (mBo σ26) (o + 158) := by rw [e26]; exact isWorld_ext S_6_25 (fun q x h => h) (fun q h1 h2 => mup_ne (by omega))
  have S_7_26 : isWorld (mBo σ26) (o + 184) := by rw [e26]; exact isWorld_ext S_7_25 (fun q x h => h) (fun q h1 h2 => mup_ne (by omega))
  have R_0_26 : σ26.2.2.2.1 o = fun _ => 0 := by rw [e26]; exact R_0_25
  have R_1_26 : σ26.2.2.2.1 (o + 1) = fun _ => 0 := by rw [e26]; exact R_1_25
  have R_6_26 : σ26.2.2.2.1 (o + 6) = upd (fun _ => 0) 0 0 := by rw [e26]; exact R_6_25
  have R_17_26 : σ26.2.2.2.1 (o + 17) = upd (fun _ => 0) 0 1 := by rw [e26]; exact R_17_25
  have R_13_26 : σ26.2.2.2.1 (o + 13) = fun _ => 0 := by rw [e26]; exact R_13_25
  have R_24_26 : σ26.2.2.2.1 (o + 24) = fun _ => 0 := by rw [e26]; exact R_24_25
  have R_32_26 : σ26.2.2.2.1 (o + 32) = upd (fun _ => 0) 0 0 := by rw [e26]; exact R_32_25
  have R_43_26 : σ26.2.2.2.1 (o + 43) = upd (fun _ => 0) 0 1 := by rw [e26]; exact R_43_25
  have R_39_26 : σ26.2.2.2.1 (o + 39) = fun _ => 0 := by rw [e26]; exact R_39_25
  have R_50_26 : σ26.2.2.2.1 (o + 50) = fun _ => 0 := by rw [e26]; exact R_50_25
  have R_58_26 : σ26.2.2.2.1 (o + 58) = upd (fun _ => 0) 0 0 := by rw [e26]; exact R_58_25
  have R_69_26 : σ26.2.2.2.1 (o + 69) = upd (fun _ => 0) 0 1 := by rw [e26]; exact R_69_25
  have R_65_26 : σ26.2.2.2.1 (o + 65) = fun _ => 0 := by rw [e26]; exact R_65_25
  have R_76_26 : σ26.2.2.2.1 (o + 76) = fun _ => 0 := by rw [e26]; exact R_76_25
  have R_84_26 : σ26.2.2.2.1 (o + 84) = upd (fun _ => 0) 0 0 := by rw [e26]; exact R_84_25
  have R_95_26 : σ26.2.2.2.1 (o + 95) = upd (fun _ => 0) 0 1 := by rw [e26]; exact R_95_25
  have R_91_26 : σ26.2.2.2.1 (o + 91) = fun _ => 0 := by rw [e26]; exact R_91_25
  have R_102_26 : σ26.2.2.2.1 (o + 102) = fun _ => 0 := by rw [e26]; exact R_102_25
  have R_110_26 : σ26.2.2.2.1 (o + 110) = upd (fun _ => 0) 0 0 := by rw [e26]; exact R_110_25
  have R_121_26 : σ26.2.2.2.1 (o + 121) = upd (fun _ => 0) 0 1 := by rw [e26]; exact R_121_25
  have R_117_26 : σ26.2.2.2.1 (o + 117) = fun _ => 0 := by rw [e26]; exact R_117_25
  have R_128_26 : σ26.2.2.2.1 (o + 128) = fun _ => 0 := by rw [e26]; exact R_128_25
  have R_136_26 : σ26.2.2.2.1 (o + 136) = upd (fun _ => 0) 0 0 := by rw [e26]; exact R_136_25
  have R_147_26 : σ26.2.2.2.1 (o + 147) = upd (fun _ => 0) 0 1 := by rw [e26]; exact R_147_25
  have R_143_26 : σ26.2.2.2.1 (o + 143) = fun _ => 0 := by rw [e26]; exact R_143_25
  have R_154_26 : σ26.2.2.2.1 (o + 154) = fun _ => 0 := by rw [e26]; exact R_154_25
  have R_162_26 : σ26.2.2.2.1 (o + 162) = upd (fun _ => 0) 0 0 := by rw [e26]; exact R_162_25
  have R_173_26 : σ26.2.2.2.1 (o + 173) = upd (fun _ => 0) 0 1 := by rw [e26]; exact R_173_25
  have R_169_26 : σ26.2.2.2.1 (o + 169) = fun _ => 0 := by rw [e26]; exact R_169_25
  have R_180_26 : σ26.2.2.2.1 (o + 180) = fun _ => 0 := by rw [e26]; exact R_180_25
  have R_188_26 : σ26.2.2.2.1 (o + 188) = upd (fun _ => 0) 0 0 := by rw [e26]; exact R_188_25
  have R_199_26 : σ26.2.2.2.1 (o + 199) = upd (fun _ => 0) 0 1 := by rw [e26]; exact R_199_25
  have R_195_26 : σ26.2.2.2.1 (o + 195) = fun _ => 0 := by rw [e26]; exact R_195_25
  have R_206_26 : σ26.2.2.2.1 (o + 206) = fun _ => 0 := by rw [e26]; exact R_206_25
  have G_1_7_26 : σ26.2.2.1 (o + 1) 7 = some (o + 184) := by rw [e26]; exact g_prS
  clear K_0_25 K_1_25 K_2_25 K_28_25 K_54_25 K_80_25 K_106_25 K_132_25 K_158_25 K_184_25 G_0_2_25 G_1_0_25 G_1_1_25 G_1_2_25 G_1_3_25 G_1_4_25 G_1_5_25 G_1_6_25 S_0_25 S_1_25 S_2_25 S_3_25 S_4_25 S_5_25 S_6_25 S_7_25 R_0_25 R_1_25 R_6_25 R_17_25 R_13_25 R_24_25 R_32_25 R_43_25 R_39_25 R_50_25 R_58_25 R_69_25 R_65_25 R_76_25 R_84_25 R_95_25 R_91_25 R_102_25 R_110_25 R_121_25 R_117_25 R_128_25 R_136_25 R_147_25 R_143_25 R_154_25 R_162_25 R_173_25 R_169_25 R_180_25 R_188_25 R_199_25 R_195_25 R_206_25 N_25 T_25 O_25 X_25 e26 σ25
  show RC _ _ _ [some (.ref o), some (.int 7)] [] σ26 _
  refine c_iinc (x := 7) (L' := [some (.ref o), some (.int 8)]) rfl rfl rfl ?_
  refine c_goto ?_
  show RC _ _ _ [some (.ref o), some (.int 8)] [] σ26 _
  refine c_iload rfl ?_
  refine c_int ?_
  refine c_icmpT (show (8 : Int32) ≤ 8 by decide) ?_
  show RC _ _ _ [some (.ref o), some (.int 8)] [] σ26 _
  refine c_retv (by omega) ?_
  refine ⟨X_26, by omega, T_26, O_26, ⟨⟨K_0_26, K_1_26, G_0_2_26⟩, fun i hi => ?_, fun i hi => ?_⟩, R_0_26, R_6_26, R_17_26, R_32_26, R_43_26, R_58_26, R_69_26, R_84_26, R_95_26, R_110_26, R_121_26, R_136_26, R_147_26, R_162_26, R_173_26, R_188_26, R_199_26⟩
  · rcases (show i = 0 ∨ i = 1 ∨ i = 2 ∨ i = 3 ∨ i = 4 ∨ i = 5 ∨ i = 6 ∨ i = 7 by omega) with rfl | rfl | rfl | rfl | rfl | rfl | rfl | rfl
    · exact G_1_0_26
    · exact G_1_1_26
    · exact G_1_2_26
    · exact G_1_3_26
    · exact G_1_4_26
    · exact G_1_5_26
    · exact G_1_6_26
    · exact G_1_7_26
  · rcases (show i = 0 ∨ i = 1 ∨ i = 2 ∨ i = 3 ∨ i = 4 ∨ i = 5 ∨ i = 6 ∨ i = 7 by omega) with rfl | rfl | rfl | rfl | rfl | rfl | rfl | rfl
    · exact S_0_26
    · exact S_1_26
    · exact S_2_26
    · exact S_3_26
    · exact S_4_26
    · exact S_5_26
    · exact S_6_26
    · exact S_7_26
def nY9_init_N (o : Nat) (σ9 : mMH) : mMH :=
  mH (mBo σ9) (mE σ9.2.2.2.1 [(o + 50, (FX9_init_t (σ9.2.2.2.1 (o + 50)) (σ9.2.2.2.1 (o + 51)) (upd (fun _ => 0) 0 0) (σ9.2.2.2.1 (o + 55)) (σ9.2.2.2.1 (o + 57)) (σ9.2.2.2.1 (o + 58)) (σ9.2.2.2.1 (o + 63)) (σ9.2.2.2.1 (o + 64)) (upd (fun _ => 0) 0 1) (σ9.2.2.2.1 (o + 66)) (σ9.2.2.2.1 (o + 68)) (σ9.2.2.2.1 (o + 69)) (σ9.2.2.2.1 (o + 74)) (σ9.2.2.2.1 (o + 75)) ((FX4_empty (fun _ => 0) (fun _ => 0)).2.1) (σ9.2.2.2.1 (o + 31)) (σ9.2.2.2.1 (o + 32)) (σ9.2.2.2.1 (o + 33)) (σ9.2.2.2.1 (o + 34)) ((FX4_empty (fun _ => 0) (fun _ => 0)).2.2)).2.1), (o + 51, (FX9_init_t (σ9.2.2.2.1 (o + 50)) (σ9.2.2.2.1 (o + 51)) (upd (fun _ => 0) 0 0) (σ9.2.2.2.1 (o + 55)) (σ9.2.2.2.1 (o + 57)) (σ9.2.2.2.1 (o + 58)) (σ9.2.2.2.1 (o + 63)) (σ9.2.2.2.1 (o + 64)) (upd (fun _ => 0) 0 1) (σ9.2.2.2.1 (o + 66)) (σ9.2.2.2.1 (o + 68)) (σ9.2.2.2.1 (o + 69)) (σ9.2.2.2.1 (o + 74)) (σ9.2.2.2.1 (o + 75)) ((FX4_empty (fun _ => 0) (fun _ => 0)).2.1) (σ9.2.2.2.1 (o + 31)) (σ9.2.2.2.1 (o + 32)) (σ9.2.2.2.1 (o + 33)) (σ9.2.2.2.1 (o + 34)) ((FX4_empty (fun _ => 0) (fun _ => 0)).2.2)).2.2.1), (o + 54, (upd (fun _ => 0) 0 0)), (o + 55, (FX9_init_t (σ9.2.2.2.1 (o + 50)) (σ9.2.2.2.1 (o + 51)) (upd (fun _ => 0) 0 0) (σ9.2.2.2.1 (o + 55)) (σ9.2.2.2.1 (o + 57)) (σ9.2.2.2.1 (o + 58)) (σ9.2.2.2.1 (o + 63)) (σ9.2.2.2.1 (o + 64)) (upd (fun _ => 0) 0 1) (σ9.2.2.2.1 (o + 66)) (σ9.2.2.2.1 (o + 68)) (σ9.2.2.2.1 (o + 69)) (σ9.2.2.2.1 (o + 74)) (σ9.2.2.2.1 (o + 75)) ((FX4_empty (fun _ => 0) (fun _ => 0)).2.1) (σ9.2.2.2.1 (o + 31)) (σ9.2.2.2.1 (o + 32)) (σ9.2.2.2.1 (o + 33)) (σ9.2.2.2.1 (o + 34)) ((FX4_empty (fun _ => 0) (fun _ => 0)).2.2)).2.2.2.1), (o + 57, (FX9_init_t (σ9.2.2.2.1 (o + 50)) (σ9.2.2.2.1 (o + 51)) (upd (fun _ => 0) 0 0) (σ9.2.2.2.1 (o + 55)) (σ9.2.2.2.1 (o + 57)) (σ9.2.2.2.1 (o + 58)) (σ9.2.2.2.1 (o + 63)) (σ9.2.2.2.1 (o + 64)) (upd (fun _ => 0) 0 1) (σ9.2.2.2.1 (o + 66)) (σ9.2.2.2.1 (o + 68)) (σ9.2.2.2.1 (o + 69)) (σ9.2.2.2.1 (o + 74)) (σ9.2.2.2.1 (o + 75)) ((FX4_empty (fun _ => 0) (fun _ => 0)).2.1) (σ9.2.2.2.1 (o + 31)) (σ9.2.2.2.1 (o + 32)) (σ9.2.2.2.1 (o + 33)) (σ9.2.2.2.1 (o + 34)) ((FX4_empty (fun _ => 0) (fun _ => 0)).2.2)).2.2.2.2.1), (o + 58, (FX9_init_t (σ9.2.2.2.1 (o + 50)) (σ9.2.2.2.1 (o + 51)) (upd (fun _ => 0) 0 0) (σ9.2.2.2.1 (o + 55)) (σ9.2.2.2.1 (o + 57)) (σ9.2.2.2.1 (o + 58)) (σ9.2.2.2.1 (o + 63)) (σ9.2.2.2.1 (o + 64)) (upd (fun _ => 0) 0 1) (σ9.2.2.2.1 (o + 66)) (σ9.2.2.2.1 (o + 68)) (σ9.2.2.2.1 (o + 69)) (σ9.2.2.2.1 (o + 74)) (σ9.2.2.2.1 (o + 75)) ((FX4_empty (fun _ => 0) (fun _ => 0)).2.1) (σ9.2.2.2.1 (o + 31)) (σ9.2.2.2.1 (o + 32)) (σ9.2.2.2.1 (o + 33)) (σ9.2.2.2.1 (o + 34)) ((FX4_empty (fun _ => 0) (fun _ => 0)).2.2)).2.2.2.2.2.1), (o + 63, (FX9_init_t (σ9.2.2.2.1 (o + 50)) (σ9.2.2.2.1 (o + 51)) (upd (fun _ => 0) 0 0) (σ9.2.2.2.1 (o + 55)) (σ9.2.2.2.1 (o + 57)) (σ9.2.2.2.1 (o + 58)) (σ9.2.2.2.1 (o + 63)) (σ9.2.2.2.1 (o + 64)) (upd (fun _ => 0) 0 1) (σ9.2.2.2.1 (o + 66)) (σ9.2.2.2.1 (o + 68)) (σ9.2.2.2.1 (o + 69)) (σ9.2.2.2.1 (o + 74)) (σ9.2.2.2.1 (o + 75)) ((FX4_empty (fun _ => 0) (fun _ => 0)).2.1) (σ9.2.2.2.1 (o + 31)) (σ9.2.2.2.1 (o + 32)) (σ9.2.2.2.1 (o + 33)) (σ9.2.2.2.1 (o + 34)) ((FX4_empty (fun _ => 0) (fun _ => 0)).2.2)).2.2.2.2.2.2.1), (o + 64, (FX9_init_t (σ9.2.2.2.1 (o + 50)) (σ9.2.2.2.1 (o + 51)) (upd (fun _ => 0) 0 0) (σ9.2.2.2.1 (o + 55)) (σ9.2.2.2.1 (o + 57)) (σ9.2.2.2.1 (o + 58)) (σ9.2.2.2.1 (o + 63)) (σ9.2.2.2.1 (o + 64)) (upd (fun _ => 0) 0 1) (σ9.2.2.2.1 (o + 66)) (σ9.2.2.2.1 (o + 68)) (σ9.2.2.2.1 (o + 69)) (σ9.2.2.2.1 (o + 74)) (σ9.2.2.2.1 (o + 75)) ((FX4_empty (fun _ => 0) (fun _ => 0)).2.1) (σ9.2.2.2.1 (o + 31)) (σ9.2.2.2.1 (o + 32)) (σ9.2.2.2.1 (o + 33)) (σ9.2.2.2.1 (o + 34)) ((FX4_empty (fun _ => 0) (fun _ => 0)).2.2)).2.2.2.2.2.2.2.1), (o + 65, (upd (fun _ => 0) 0 1)), (o + 66, (FX9_init_t (σ9.2.2.2.1 (o + 50)) (σ9.2.2.2.1 (o + 51)) (upd (fun _ => 0) 0 0) (σ9.2.2.2.1 (o + 55)) (σ9.2.2.2.1 (o + 57)) (σ9.2.2.2.1 (o + 58)) (σ9.2.2.2.1 (o + 63)) (σ9.2.2.2.1 (o + 64)) (upd (fun _ => 0) 0 1) (σ9.2.2.2.1 (o + 66)) (σ9.2.2.2.1 (o + 68)) (σ9.2.2.2.1 (o + 69)) (σ9.2.2.2.1 (o + 74)) (σ9.2.2.2.1 (o + 75)) ((FX4_empty (fun _ => 0) (fun _ => 0)).2.1) (σ9.2.2.2.1 (o + 31)) (σ9.2.2.2.1 (o + 32)) (σ9.2.2.2.1 (o + 33)) (σ9.2.2.2.1 (o + 34)) ((FX4_empty (fun _ => 0) (fun _ => 0)).2.2)).2.2.2.2.2.2.2.2.1), (o + 68, (FX9_init_t (σ9.2.2.2.1 (o + 50)) (σ9.2.2.2.1 (o + 51)) (upd (fun _ => 0) 0 0) (σ9.2.2.2.1 (o + 55)) (σ9.2.2.2.1 (o + 57)) (σ9.2.2.2.1 (o + 58)) (σ9.2.2.2.1 (o + 63)) (σ9.2.2.2.1 (o + 64)) (upd (fun _ => 0) 0 1) (σ9.2.2.2.1 (o + 66)) (σ9.2.2.2.1 (o + 68)) (σ9.2.2.2.1 (o + 69)) (σ9.2.2.2.1 (o + 74)) (σ9.2.2.2.1 (o + 75)) ((FX4_empty (fun _ => 0) (fun _ => 0)).2.1) (σ9.2.2.2.1 (o + 31)) (σ9.2.2.2.1 (o + 32)) (σ9.2.2.2.1 (o + 33)) (σ9.2.2.2.1 (o + 34)) ((FX4_empty (fun _ => 0) (fun _ => 0)).2.2)).2.2.2.2.2.2.2.2.2.1), (o + 69, (FX9_init_t (σ9.2.2.2.1 (o + 50)) (σ9.2.2.2.1 (o + 51)) (upd (fun _ => 0) 0 0) (σ9.2.2.2.1 (o + 55)) (σ9.2.2.2.1 (o + 57)) (σ9.2.2.2.1 (o + 58)) (σ9.2.2.2.1 (o + 63)) (σ9.2.2.2.1 (o + 64)) (upd (fun _ => 0) 0 1) (σ9.2.2.2.1 (o + 66)) (σ9.2.2.2.1 (o + 68)) (σ9.2.2.2.1 (o + 69)) (σ9.2.2.2.1 (o + 74)) (σ9.2.2.2.1 (o + 75)) ((FX4_empty (fun _ => 0) (fun _ => 0)).2.1) (σ9.2.2.2.1 (o + 31)) (σ9.2.2.2.1 (o + 32)) (σ9.2.2.2.1 (o + 33)) (σ9.2.2.2.1 (o + 34)) ((FX4_empty (fun _ => 0) (fun _ => 0)).2.2)).2.2.2.2.2.2.2.2.2.2.1), (o + 74, (FX9_init_t (σ9.2.2.2.1 (o + 50)) (σ9.2.2.2.1 (o + 51)) (upd (fun _ => 0) 0 0) (σ9.2.2.2.1 (o + 55)) (σ9.2.2.2.1 (o + 57)) (σ9.2.2.2.1 (o + 58)) (σ9.2.2.2.1 (o + 63)) (σ9.2.2.2.1 (o + 64)) (upd (fun _ => 0) 0 1) (σ9.2.2.2.1 (o + 66)) (σ9.2.2.2.1 (o + 68)) (σ9.2.2.2.1 (o + 69)) (σ9.2.2.2.1 (o + 74)) (σ9.2.2.2.1 (o + 75)) ((FX4_empty (fun _ => 0) (fun _ => 0)).2.1) (σ9.2.2.2.1 (o + 31)) (σ9.2.2.2.1 (o + 32)) (σ9.2.2.2.1 (o + 33)) (σ9.2.2.2.1 (o + 34)) ((FX4_empty (fun _ => 0) (fun _ => 0)).2.2)).2.2.2.2.2.2.2.2.2.2.2.1), (o + 75, (FX9_init_t (σ9.2.2.2.1 (o + 50)) (σ9.2.2.2.1 (o + 51)) (upd (fun _ => 0) 0 0) (σ9.2.2.2.1 (o + 55)) (σ9.2.2.2.1 (o + 57)) (σ9.2.2.2.1 (o + 58)) (σ9.2.2.2.1 (o + 63)) (σ9.2.2.2.1 (o + 64)) (upd (fun _ => 0) 0 1) (σ9.2.2.2.1 (o + 66)) (σ9.2.2.2.1 (o + 68)) (σ9.2.2.2.1 (o + 69)) (σ9.2.2.2.1 (o + 74)) (σ9.2.2.2.1 (o + 75)) ((FX4_empty (fun _ => 0) (fun _ => 0)).2.1) (σ9.2.2.2.1 (o + 31)) (σ9.2.2.2.1 (o + 32)) (σ9.2.2.2.1 (o + 33)) (σ9.2.2.2.1 (o + 34)) ((FX4_empty (fun _ => 0) (fun _ => 0)).2.2)).2.2.2.2.2.2.2.2.2.2.2.2), (o + 22, ((FX4_empty (fun _ => 0) (fun _ => 0)).2.1)), (o + 31, (σ9.2.2.2.1 (o + 31))), (o + 32, (σ9.2.2.2.1 (o + 32))), (o + 33, (σ9.2.2.2.1 (o + 33))), (o + 34, (σ9.2.2.2.1 (o + 34))), (o + 35, ((FX4_empty (fun _ => 0) (fun _ => 0)).2.2))]) σ9.2.2.2.2
set_option maxRecDepth 20000 in
set_option maxHeartbeats 4000000 in
theorem nY9_init {d : Nat} {σ : mMH} {o : Nat} (hL : σ.2.1.length = o + 1) (hO : rOK σ) (hR : σ.2.2.2.1 o = fun _ => 0) (hK : σ.2.1[o]? = some (9, 0)) (hz : o + 371 ≤ 1000000) (hT : ∀ (u0 : mF) (u1 : mF) (u2 : mF) (u3 : mF) (u4 : mF) (u5 : mF) (u6 : mF) (u7 : mF) (u8 : mF) (u9 : mF) (u10 : mF) (u11 : mF) (u12 : mF) (u13 : mF) (u14 : mF) (u15 : mF), OX9_init_t u0 u1 (upd (fun _ => 0) 0 0) u2 u3 u4 u5 u6 (upd (fun _ => 0) 0 1) u7 u8 u9 u10 u11 ((FX4_empty (fun _ => 0) (fun _ => 0)).2.1) u12 u13 u14 u15 ((FX4_empty (fun _ => 0) (fun _ => 0)).2.2)) : CC (d + 7) 123 [.ref o] σ (fun τ => ∃ σ9, τ = nY9_init_N o σ9 ∧ σ9.2.1.length = o + 371 ∧ σ9.1 = σ.1 + 10657 ∧ rOK σ9 ∧ Ex σ σ9 o ∧ σ9.2.2.2.1 o = (fun _ => 0) ∧ σ9.2.2.2.1 (o + 1) = (fun _ => 0) ∧ σ9.2.2.2.1 (o + 3) = ((FX5_init_t (fun _ => 0)).2) ∧ σ9.2.2.2.1 (o + 22) = ((FX4_empty (fun _ => 0) (fun _ => 0)).2.1) ∧ σ9.2.2.2.1 (o + 35) = ((FX4_empty (fun _ => 0) (fun _ => 0)).2.2) ∧ σ9.2.2.2.1 (o + 36) = ((FX4_empty (fun _ => 0) (fun _ => 0)).2.1) ∧ σ9.2.2.2.1 (o + 49) = ((FX4_empty (fun _ => 0) (fun _ => 0)).2.2) ∧ σ9.2.2.2.1 (o + 54) = (upd (fun _ => 0) 0 0) ∧ σ9.2.2.2.1 (o + 61) = (fun _ => 0) ∧ σ9.2.2.2.1 (o + 65) = (upd (fun _ => 0) 0 1) ∧ σ9.2.2.2.1 (o + 72) = (fun _ => 0) ∧ σ9.2.2.2.1 (o + 80) = (upd (fun _ => 0) 0 0) ∧ σ9.2.2.2.1 (o + 87) = (fun _ => 0) ∧ σ9.2.2.2.1 (o + 91) = (upd (fun _ => 0) 0 1) ∧ σ9.2.2.2.1 (o + 98) = (fun _ => 0) ∧ σ9.2.2.2.1 (o + 102) = (fun _ => 0) ∧ σ9.2.2.2.1 (o + 108) = (upd (fun _ => 0) 0 0) ∧ σ9.2.2.2.1 (o + 119) = (upd (fun _ => 0) 0 1) ∧ σ9.2.2.2.1 (o + 134) = (upd (fun _ => 0) 0 0) ∧ σ9.2.2.2.1 (o + 145) = (upd (fun _ => 0) 0 1) ∧ σ9.2.2.2.1 (o + 160) = (upd (fun _ => 0) 0 0) ∧ σ9.2.2.2.1 (o + 171) = (upd (fun _ => 0) 0 1) ∧ σ9.2.2.2.1 (o + 186) = (upd (fun _ => 0) 0 0) ∧ σ9.2.2.2.1 (o + 197) = (upd (fun _ => 0) 0 1) ∧ σ9.2.2.2.1 (o + 212) = (upd (fun _ => 0) 0 0) ∧ σ9.2.2.2.1 (o + 223) = (upd (fun _ => 0) 0 1) ∧ σ9.2.2.2.1 (o + 238) = (upd (fun _ => 0) 0 0) ∧ σ9.2.2.2.1 (o + 249) = (upd (fun _ => 0) 0 1) ∧ σ9.2.2.2.1 (o + 264) = (upd (fun _ => 0) 0 0) ∧ σ9.2.2.2.1 (o + 275) = (upd (fun _ => 0) 0 1) ∧ σ9.2.2.2.1 (o + 290) = (upd (fun _ => 0) 0 0) ∧ σ9.2.2.2.1 (o + 301) = (upd (fun _ => 0) 0 1) ∧ σ9.2.2.2.1 (o + 312) = (fun _ => 0) ∧ σ9.2.2.2.1 (o + 317) = (upd (fun _ => 0) 0 0) ∧ σ9.2.2.2.1 (o + 324) = (fun _ => 0) ∧ σ9.2.2.2.1 (o + 328) = (upd (fun _ => 0) 0 1) ∧ σ9.2.2.2.1 (o + 335) = (fun _ => 0) ∧ σ9.2.2.2.1 (o + 343) = (upd (fun _ => 0) 0 0) ∧ σ9.2.2.2.1 (o + 350) = (fun _ => 0) ∧ σ9.2.2.2.1 (o + 354) = (upd (fun _ => 0) 0 1) ∧ σ9.2.2.2.1 (o + 361) = (fun _ => 0) ∧ σ9.2.2.2.1 (o + 365) = (fun _ => 0) ∧ σ9.2.2.2.1 (o + 370) = (fun _ => 0) ∧ σ9.2.1[o]? = some (9, 0) ∧ σ9.2.1[o + 1]? = some (21, 700) ∧ σ9.2.1[o + 312]? = some (26, 2) ∧ σ9.2.1[o + 365]? = some (22, 2) ∧ σ9.2.1[o + 370]? = some (20, 16) ∧ σ9.2.2.1 o 0 = some (o + 1) ∧ σ9.2.2.1 o 2 = some (o + 2) ∧ σ9.2.2.1 o 3 = some (o + 22) ∧ σ9.2.2.1 o 4 = some (o + 36) ∧ σ9.2.2.1 o 5 = some (o + 50) ∧ σ9.2.2.1 o 6 = some (o + 76) ∧ σ9.2.2.1 o 7 = some (o + 102) ∧ σ9.2.2.1 o 8 = some (o + 312) ∧ σ9.2.2.1 o 9 = some (o + 365) ∧ σ9.2.2.1 o 10 = some (o + 366) ∧ σ9.2.2.1 o 11 = some (o + 370) ∧ σ9.2.2.1 (o + 312) 0 = some (o + 313) ∧ σ9.2.2.1 (o + 312) 1 = some (o + 339) ∧ isRd (mBo σ9) (o + 2) ∧ isPrg (mBo σ9) (o + 22) ∧ isPrg (mBo σ9) (o + 36) ∧ isWorld (mBo σ9) (o + 50) ∧ isWorld (mBo σ9) (o + 76) ∧ isHi (mBo σ9) (o + 102) ∧ isWorld (mBo σ9) (o + 313) ∧ isWorld (mBo σ9) (o + 339) ∧ isWays (mBo σ9) (o + 366)) := by
  have K_0_0 := hK
  have R_0_0 := hR
  have O_0 := hO
  have N_0 := hL
  have T_0 : σ.1 = σ.1 + 0 := rfl
  have X_0 : Ex σ σ o := Ex.rf
  refine c_begin mt_123 (by intro a ha; simp only [List.mem_cons, List.not_mem_nil, or_false] at ha; rcases ha with rfl <;> rfl) (Nat.le_of_ble_eq_true rfl) ?_
  show RC _ _ _ [some (.ref o)] [] σ _
  refine c_aload rfl ?_
  refine c_obj (Nat.le_of_ble_eq_true rfl) ?_
  refine c_aload rfl ?_
  refine c_int ?_
  refine c_newa (t := 1) (z := 700) (by decide) (by decide) (mOut_lt (ltL [o] rfl (List.forall_mem_cons.mpr ⟨by omega, (fun _ h => absurd h List.not_mem_nil)⟩)) (ltS [o] rfl (List.forall_mem_cons.mpr ⟨by omega, (fun _ h => absurd h List.not_mem_nil)⟩))) O_0 ?_
  rw [show ((700 : Int32)).toNatClampNeg = 700 by decide]
  obtain ⟨σ1, e1⟩ : ∃ x, x = mNew σ 21 700 700 := ⟨_, rfl⟩
  rw [← e1, show σ.2.1.length = o + 1 by omega]
  have N_1 : σ1.2.1.length = o + 2 := by rw [e1, len_new]; omega
  have T_1 : σ1.1 = σ.1 + 700 := by rw [e1]; show σ.1 + 700 = _; omega
  have O_1 : rOK σ1 := by rw [e1]; exact rOK_new O_0
  have X_1 : Ex σ σ1 o := by rw [e1]; exact X_0.new (by omega)
  have K_0_1 : σ1.2.1[o]? = some (9, 0) := by rw [e1]; exact k_new K_0_0
  have R_0_1 : σ1.2.2.2.1 o = fun _ => 0 := by rw [e1]; exact (mup_ne (by omega)).trans R_0_0
  have K_1_1 : σ1.2.1[o + 1]? = some (21, 700) := by rw [e1, ← show σ.2.1.length = o + 1 by omega]; exact k_newS
  have R_1_1 : σ1.2.2.2.1 (o + 1) = fun _ => 0 := by rw [e1, ← show σ.2.1.length = o + 1 by omega]; exact mup_eq
  clear K_0_0 R_0_0 N_0 T_0 O_0 X_0 e1
  show RC _ _ _ [some (.ref o)] [.ref (o + 1), .ref o] σ1 _
  refine c_putr K_0_1 ?_
  obtain ⟨σ2, e2⟩ : ∃ x, x = mPr σ1 o 0 (some (o + 1)) := ⟨_, rfl⟩
  rw [← e2]
  have N_2 : σ2.2.1.length = o + 2 := by rw [e2]; exact N_1
  have T_2 : σ2.1 = σ.1 + 700 := by rw [e2]; exact T_1
  have O_2 : rOK σ2 := by rw [e2]; exact rOK_pr O_1 (by omega)
  have X_2 : Ex σ σ2 o := by rw [e2]; exact X_1.pr (by omega)
  have K_0_2 : σ2.2.1[o]? = some (9, 0) := by rw [e2]; exact K_0_1
  have K_1_2 : σ2.2.1[o + 1]? = some (21, 700) := by rw [e2]; exact K_1_1
  have R_0_2 : σ2.2.2.2.1 o = fun _ => 0 := by rw [e2]; exact R_0_1
  have R_1_2 : σ2.2.2.2.1 (o + 1) = fun _ => 0 := by rw [e2]; exact R_1_1
  have G_0_0_2 : σ2.2.2.1 o 0 = some (o + 1) := by rw [e2]; exact g_prS
  clear K_0_1 K_1_1 R_0_1 R_1_1 N_1 T_1 O_1 X_1 e2 σ1
  show RC _ _ _ [some (.ref o)] [] σ2 _
  refine c_aload rfl ?_
  refine c_new (k := 5) (mOut_lt (ltL [o] rfl (List.forall_mem_cons.mpr ⟨by omega, (fun _ h => absurd h List.not_mem_nil)⟩)) (ltS [o] rfl (List.forall_mem_cons.mpr ⟨by omega, (fun _ h => absurd h List.not_mem_nil)⟩))) O_2 ?_
  obtain ⟨σ3, e3⟩ : ∃ x, x = mNew σ2 5 0 (mFt.getD 5 []).length := ⟨_, rfl⟩
  rw [← e3, show σ2.2.1.length = o + 2 by omega]
  have N_3 : σ3.2.1.length = o + 3 := by rw [e3, len_new]; omega
  have T_3 : σ3.1 = σ.1 + 714 := by rw [e3]; show σ2.1 + 14 = _; omega
  have O_3 : rOK σ3 := by rw [e3]; exact rOK_new O_2
  have X_3 : Ex σ σ3 o := by rw [e3]; exact X_2.new (by omega)
  have K_0_3 : σ3.2.1[o]? = some (9, 0) := by rw [e3]; exact k_new K_0_2
  have K_1_3 : σ3.2.1[o + 1]? = some (21, 700) := by rw [e3]; exact k_new K_1_2
  have G_0_0_3 : σ3.2.2.1 o 0 = some (o + 1) := by rw [e3]; exact g_new (by omega) G_0_0_2
  have R_0_3 : σ3.2.2.2.1 o = fun _ => 0 := by rw [e3]; exact (mup_ne (by omega)).trans R_0_2
  have R_1_3 : σ3.2.2.2.1 (o + 1) = fun _ => 0 := by rw [e3]; exact (mup_ne (by omega)).trans R_1_2
  have K_2_3 : σ3.2.1[o + 2]? = some (5, 0) := by rw [e3, ← show σ2.2.1.length = o + 2 by omega]; exact k_newS
  have R_2_3 : σ3.2.2.2.1 (o + 2) = fun _ => 0 := by rw [e3, ← show σ2.2.1.length = o + 2 by omega]; exact mup_eq
  clear K_0_2 K_1_2 G_0_0_2 R_0_2 R_1_2 N_2 T_2 O_2 X_2 e3 σ2
  show RC _ _ _ [some (.ref o)] [.ref (o + 2), .ref o] σ3 _
  refine c_dup rfl ?_
  refine c_call (o := o + 2) (as := []) (st := [.ref (o + 2), .ref o]) (rfl) rfl (Nat.le_of_ble_eq_true rfl) (Or.inl rfl) (ltL [o] rfl (List.forall_mem_cons.mpr ⟨by omega, (fun _ h => absurd h List.not_mem_nil)⟩)) (ltS [o + 2, o] rfl (List.forall_mem_cons.mpr ⟨by omega, (List.forall_mem_cons.mpr ⟨by omega, (fun _ h => absurd h List.not_mem_nil)⟩)⟩)) (nY5_init (by omega) O_3 R_2_3 K_2_3 (by omega)) (fun σ4 Z_4 => ?_)
  obtain ⟨E_4, NN_4, TT_4, O_4, Y0_4, Y1_4⟩ := Z_4
  have N_4 : σ4.2.1.length = o + 22 := by omega
  have T_4 : σ4.1 = σ.1 + 1769 := by omega
  have X_4 : Ex σ σ4 o := X_3.call E_4 (by omega)
  have K_0_4 : σ4.2.1[o]? = some (9, 0) := E_4.1 _ _ K_0_3
  have K_1_4 : σ4.2.1[o + 1]? = some (21, 700) := E_4.1 _ _ K_1_3
  have K_2_4 : σ4.2.1[o + 2]? = some (5, 0) := E_4.1 _ _ K_2_3
  have G_0_0_4 : σ4.2.2.1 o 0 = some (o + 1) := by rw [(E_4.2 _ (by omega) (by omega)).1]; exact G_0_0_3
  have R_0_4 : σ4.2.2.2.1 o = fun _ => 0 := by rw [(E_4.2 _ (by omega) (by omega)).2.1]; exact R_0_3
  have R_1_4 : σ4.2.2.2.1 (o + 1) = fun _ => 0 := by rw [(E_4.2 _ (by omega) (by omega)).2.1]; exact R_1_3
  have S_0_4 : isRd (mBo σ4) (o + 2) := Y0_4
  have R_3_4 : σ4.2.2.2.1 (o + 3) = (FX5_init_t (fun _ => 0)).2 := Y1_4
  clear K_0_3 K_1_3 K_2_3 G_0_0_3 R_0_3 R_1_3 R_2_3 N_3 T_3 O_3 X_3 E_4 NN_4 TT_4 Y0_4 Y1_4 σ3
  show RC _ _ _ [some (.ref o)] [.ref (o + 2), .ref o] σ4 _
  refine c_putr K_0_4 ?_
  obtain ⟨σ5, e5⟩ : ∃ x, x = mPr σ4 o 2 (some (o + 2)) := ⟨_, rfl⟩
  rw [← e5]
  have N_5 : σ5.2.1.length = o + 22 := by rw [e5]; exact N_4
  have T_5 : σ5.1 = σ.1 + 1769 := by rw [e5]; exact T_4
  have O_5 : rOK σ5 := by rw [e5]; exact rOK_pr O_4 (by omega)
  have X_5 : Ex σ σ5 o := by rw [e5]; exact X_4.pr (by omega)
  have K_0_5 : σ5.2.1[o]? = some (9, 0) := by rw [e5]; exact K_0_4
  have K_1_5 : σ5.2.1[o + 1]? = some (21, 700) := by rw [e5]; exact K_1_4
  have K_2_5 : σ5.2.1[o + 2]? = some (5, 0) := by rw [e5]; exact K_2_4
  have G_0_0_5 : σ5.2.2.1 o 0 = some (o + 1) := by rw [e5]; exact g_prK (by decide) G_0_0_4
  have S_0_5 : isRd (mBo σ5) (o + 2) := by rw [e5]; exact isRd_ext S_0_4 (fun q x h => h) (fun q h1 h2 => mup_ne (by omega))
  have R_0_5 : σ5.2.2.2.1 o = fun _ => 0 := by rw [e5]; exact R_0_4
  have R_1_5 : σ5.2.2.2.1 (o + 1) = fun _ => 0 := by rw [e5]; exact R_1_4
  have R_3_5 : σ5.2.2.2.1 (o + 3) = (FX5_init_t (fun _ => 0)).2 := by rw [e5]; exact R_3_4
  have G_0_2_5 : σ5.2.2.1 o 2 = some (o + 2) := by rw [e5]; exact g_prS
  clear K_0_4 K_1_4 K_2_4 G_0_0_4 S_0_4 R_0_4 R_1_4 R_3_4 N_4 T_4 O_4 X_4 e5 σ4
  show RC _ _ _ [some (.ref o)] [] σ5 _
  refine c_aload rfl ?_
  refine c_new (k := 4) (mOut_lt (ltL [o] rfl (List.forall_mem_cons.mpr ⟨by omega, (fun _ h => absurd h List.not_mem_nil)⟩)) (ltS [o] rfl (List.forall_mem_cons.mpr ⟨by omega, (fun _ h => absurd h List.not_mem_nil)⟩))) O_5 ?_
  obtain ⟨σ6, e6⟩ : ∃ x, x = mNew σ5 4 0 (mFt.getD 4 []).length := ⟨_, rfl⟩
  rw [← e6, show σ5.2.1.length = o + 22 by omega]
  have N_6 : σ6.2.1.length = o + 23 := by rw [e6, len_new]; omega
  have T_6 : σ6.1 = σ.1 + 1787 := by rw [e6]; show σ5.1 + 18 = _; omega
  have O_6 : rOK σ6 := by rw [e6]; exact rOK_new O_5
  have X_6 : Ex σ σ6 o := by rw [e6]; exact X_5.new (by omega)
  have K_0_6 : σ6.2.1[o]? = some (9, 0) := by rw [e6]; exact k_new K_0_5
  have K_1_6 : σ6.2.1[o + 1]? = some (21, 700) := by rw [e6]; exact k_new K_1_5
  have K_2_6 : σ6.2.1[o + 2]? = some (5, 0) := by rw [e6]; exact k_new K_2_5
  have G_0_0_6 : σ6.2.2.1 o 0 = some (o + 1) := by rw [e6]; exact g_new (by omega) G_0_0_5
  have G_0_2_6 : σ6.2.2.1 o 2 = some (o + 2) := by rw [e6]; exact g_new (by omega) G_0_2_5
  have S_0_6 : isRd (mBo σ6) (o + 2) := by rw [e6]; exact isRd_ext S_0_5 (fun q x h => k_new h) (fun q h1 h2 => mup_ne (by omega))
  have R_0_6 : σ6.2.2.2.1 o = fun _ => 0 := by rw [e6]; exact (mup_ne (by omega)).trans R_0_5
  have R_1_6 : σ6.2.2.2.1 (o + 1) = fun _ => 0 := by rw [e6]; exact (mup_ne (by omega)).trans R_1_5
  have R_3_6 : σ6.2.2.2.1 (o + 3) = (FX5_init_t (fun _ => 0)).2 := by rw [e6]; exact (mup_ne (by omega)).trans R_3_5
  have K_22_6 : σ6.2.1[o + 22]? = some (4, 0) := by rw [e6, ← show σ5.2.1.length = o + 22 by omega]; exact k_newS
  have R_22_6 : σ6.2.2.2.1 (o + 22) = fun _ => 0 := by rw [e6, ← show σ5.2.1.length = o + 22 by omega]; exact mup_eq
  clear K_0_5 K_1_5 K_2_5 G_0_0_5 G_0_2_5 S_0_5 R_0_5 R_1_5 R_3_5 N_5 T_5 O_5 X_5 e6 σ5
  show RC _ _ _ [some (.ref o)] [.ref (o + 22), .ref o] σ6 _
  refine c_dup rfl ?_
  refine c_call (o := o + 22) (as := []) (st := [.ref (o + 22), .ref o]) (rfl) rfl (Nat.le_of_ble_eq_true rfl) (Or.inl rfl) (ltL [o] rfl (List.forall_mem_cons.mpr ⟨by omega, (fun _ h => absurd h List.not_mem_nil)⟩)) (ltS [o + 22, o] rfl (List.forall_mem_cons.mpr ⟨by omega, (List.forall_mem_cons.mpr ⟨by omega, (fun _ h => absurd h List.not_mem_nil)⟩)⟩)) (nY4_init (by omega) O_6 R_22_6 K_22_6 (by omega)) (fun σ7 Z_7 => ?_)
  obtain ⟨E_7, NN_7, TT_7, O_7, Y0_7, Y1_7, Y2_7⟩ := Z_7
  have N_7 : σ7.2.1.length = o + 36 := by omega
  have T_7 : σ7.1 = σ.1 + 2445 := by omega
  have X_7 : Ex σ σ7 o := X_6.call E_7 (by omega)
  have K_0_7 : σ7.2.1[o]? = some (9, 0) := E_7.1 _ _ K_0_6
  have K_1_7 : σ7.2.1[o + 1]? = some (21, 700) := E_7.1 _ _ K_1_6
  have K_2_7 : σ7.2.1[o + 2]? = some (5, 0) := E_7.1 _ _ K_2_6
  have K_22_7 : σ7.2.1[o + 22]? = some (4, 0) := E_7.1 _ _ K_22_6
  have G_0_0_7 : σ7.2.2.1 o 0 = some (o + 1) := by rw [(E_7.2 _ (by omega) (by omega)).1]; exact G_0_0_6
  have G_0_2_7 : σ7.2.2.1 o 2 = some (o + 2) := by rw [(E_7.2 _ (by omega) (by omega)).1]; exact G_0_2_6
  have S_0_7 : isRd (mBo σ7) (o + 2) := isRd_ext S_0_6 E_7.1 (fun q h1 h2 => (E_7.2 q (by omega) (by omega)).1)
  have R_0_7 : σ7.2.2.2.1 o = fun _ => 0 := by rw [(E_7.2 _ (by omega) (by omega)).2.1]; exact R_0_6
  have R_1_7 : σ7.2.2.2.1 (o + 1) = fun _ => 0 := by rw [(E_7.2 _ (by omega) (by omega)).2.1]; exact R_1_6
  have R_3_7 : σ7.2.2.2.1 (o + 3) = (FX5_init_t (fun _ => 0)).2 := by rw [(E_7.2 _ (by omega) (by omega)).2.1]; exact R_3_6
  have S_1_7 : isPrg (mBo σ7) (o + 22) := Y0_7
  have R_22_7 : σ7.2.2.2.1 (o + 22) = (FX4_empty (fun _ => 0) (fun _ => 0)).2.1 := Y1_7
  have R_35_7 : σ7.2.2.2.1 (o + 35) = (FX4_empty (fun _ => 0) (fun _ => 0)).2.2 := Y2_7
  clear K_0_6 K_1_6 K_2_6 K_22_6 G_0_0_6 G_0_2_6 S_0_6 R_0_6 R_1_6 R_3_6 R_22_6 N_6 T_6 O_6 X_6 E_7 NN_7 TT_7 Y0_7 Y1_7 Y2_7 σ6
  show RC _ _ _ [some (.ref o)] [.ref (o + 22), .ref o] σ7 _
  refine c_putr K_0_7 ?_
  obtain ⟨σ8, e8⟩ : ∃ x, x = mPr σ7 o 3 (some (o + 22)) := ⟨_, rfl⟩
  rw [← e8]
  have N_8 : σ8.2.1.length = o + 36 := by rw [e8]; exact N_7
  have T_8 : σ8.1 = σ.1 + 2445 := by rw [e8]; exact T_7
  have O_8 : rOK σ8 := by rw [e8]; exact rOK_pr O_7 (by omega)
  have X_8 : Ex σ σ8 o := by rw [e8]; exact X_7.pr (by omega)
  have K_0_8 : σ8.2.1[o]? = some (9, 0) := by rw [e8]; exact K_0_7
  have K_1_8 : σ8.2.1[o + 1]? = some (21, 700) := by rw [e8]; exact K_1_7
  have K_2_8 : σ8.2.1[o + 2]? = some (5, 0) := by rw [e8]; exact K_2_7
  have K_22_8 : σ8.2.1[o + 22]? = some (4, 0) := by rw [e8]; exact K_22_7
  have G_0_0_8 : σ8.2.2.1 o 0 = some (o + 1) := by rw [e8]; exact g_prK (by decide) G_0_0_7
  have G_0_2_8 : σ8.2.2.1 o 2 = some (o + 2) := by rw [e8]; exact g_prK (by decide) G_0_2_7
  have S_0_8 : isRd (mBo σ8) (o + 2) := by rw [e8]; exact isRd_ext S_0_7 (fun q x h => h) (fun q h1 h2 => mup_ne (by omega))
  have S_1_8 : isPrg (mBo σ8) (o + 22) := by rw [e8]; exact isPrg_ext S_1_7 (fun q x h => h) (fun q h1 h2 => mup_ne (by omega))
  have R_0_8 : σ8.2.2.2.1 o = fun _ => 0 := by rw [e8]; exact R_0_7
  have R_1_8 : σ8.2.2.2.1 (o + 1) = fun _ => 0 := by rw [e8]; exact R_1_7
  have R_3_8 : σ8.2.2.2.1 (o + 3) = (FX5_init_t (fun _ => 0)).2 := by rw [e8]; exact R_3_7
  have R_22_8 : σ8.2.2.2.1 (o + 22) = (FX4_empty (fun _ => 0) (fun _ => 0)).2.1 := by rw [e8]; exact R_22_7
  have R_35_8 : σ8.2.2.2.1 (o + 35) = (FX4_empty (fun _ => 0) (fun _ => 0)).2.2 := by rw [e8]; exact R_35_7
  have G_0_3_8 : σ8.2.2.1 o 3 = some (o + 22) := by rw [e8]; exact g_prS
  clear K_0_7 K_1_7 K_2_7 K_22_7 G_0_0_7 G_0_2_7 S_0_7 S_1_7 R_0_7 R_1_7 R_3_7 R_22_7 R_35_7 N_7 T_7 O_7 X_7 e8 σ7
  show RC _ _ _ [some (.ref o)] [] σ8 _
  refine c_aload rfl ?_
  refine c_new (k := 4) (mOut_lt (ltL [o] rfl (List.forall_mem_cons.mpr ⟨by omega, (fun _ h => absurd h List.not_mem_nil)⟩)) (ltS [o] rfl (List.forall_mem_cons.mpr ⟨by omega, (fun _ h => absurd h List.not_mem_nil)⟩))) O_8 ?_
  obtain ⟨σ9, e9⟩ : ∃ x, x = mNew σ8 4 0 (mFt.getD 4 []).length := ⟨_, rfl⟩
  rw [← e9, show σ8.2.1.length = o + 36 by omega]
  have N_9 : σ9.2.1.length = o + 37 := by rw [e9, len_new]; omega
  have T_9 : σ9.1 = σ.1 + 2463 := by rw [e9]; show σ8.1 + 18 = _; omega
  have O_9 : rOK σ9 := by rw [e9]; exact rOK_new O_8
  have X_9 : Ex σ σ9 o := by rw [e9]; exact X_8.new (by omega)
  have K_0_9 : σ9.2.1[o]? = some (9, 0) := by rw [e9]; exact k_new K_0_8
  have K_1_9 : σ9.2.1[o + 1]? = some (21, 700) := by rw [e9]; exact k_new K_1_8
  have K_2_9 : σ9.2.1[o + 2]? = some (5, 0) := by rw [e9]; exact k_new K_2_8
  have K_22_9 : σ9.2.1[o + 22]? = some (4, 0) := by rw [e9]; exact k_new K_22_8
  have G_0_0_9 : σ9.2.2.1 o 0 = some (o + 1) := by rw [e9]; exact g_new (by omega) G_0_0_8
  have G_0_2_9 : σ9.2.2.1 o 2 = some (o + 2) := by rw [e9]; exact g_new (by omega) G_0_2_8
  have G_0_3_9 : σ9.2.2.1 o 3 = some (o + 22) := by rw [e9]; exact g_new (by omega) G_0_3_8
  have S_0_9 : isRd (mBo σ9) (o + 2) := by rw [e9]; exact isRd_ext S_0_8 (fun q x h => k_new h) (fun q h1 h2 => mup_ne (by omega))
  have S_1_9 : isPrg (mBo σ9) (o + 22) := by rw [e9]; exact isPrg_ext S_1_8 (fun q x h => k_new h) (fun q h1 h2 => mup_ne (by omega))
  have R_0_9 : σ9.2.2.2.1 o = fun _ => 0 := by rw [e9]; exact (mup_ne (by omega)).trans R_0_8
  have R_1_9 : σ9.2.2.2.1 (o + 1) = fun _ => 0 := by rw [e9]; exact (mup_ne (by omega)).trans R_1_8
  have R_3_9 : σ9.2.2.2.1 (o + 3) = (FX5_init_t (fun _ => 0)).2 := by rw [e9]; exact (mup_ne (by omega)).trans R_3_8
  have R_22_9 : σ9.2.2.2.1 (o + 22) = (FX4_empty (fun _ => 0) (fun _ => 0)).2.1 := by rw [e9]; exact (mup_ne (by omega)).trans R_22_8
  have R_35_9 : σ9.2.2.2.1 (o + 35) = (FX4_empty (fun _ => 0) (fun _ => 0)).2.2 := by rw [e9]; exact (mup_ne (by omega)).trans R_35_8
  have K_36_9 : σ9.2.1[o + 36]? = some (4, 0) := by rw [e9, ← show σ8.2.1.length = o + 36 by omega]; exact k_newS
  have R_36_9 : σ9.2.2.2.1 (o + 36) = fun _ => 0 := by rw [e9, ← show σ8.2.1.length = o + 36 by omega]; exact mup_eq
  clear K_0_8 K_1_8 K_2_8 K_22_8 G_0_0_8 G_0_2_8 G_0_3_8 S_0_8 S_1_8 R_0_8 R_1_8 R_3_8 R_22_8 R_35_8 N_8 T_8 O_8 X_8 e9 σ8
  show RC _ _ _ [some (.ref o)] [.ref (o + 36), .ref o] σ9 _
  refine c_dup rfl ?_
  refine c_call (o := o + 36) (as := []) (st := [.ref (o + 36), .ref o]) (rfl) rfl (Nat.le_of_ble_eq_true rfl) (Or.inl rfl) (ltL [o] rfl (List.forall_mem_cons.mpr ⟨by omega, (fun _ h => absurd h List.not_mem_nil)⟩)) (ltS [o + 36, o] rfl (List.forall_mem_cons.mpr ⟨by omega, (List.forall_mem_cons.mpr ⟨by omega, (fun _ h => absurd h List.not_mem_nil)⟩)⟩)) (nY4_init (by omega) O_9 R_36_9 K_36_9 (by omega)) (fun σ10 Z_10 => ?_)
  obtain ⟨E_10, NN_10, TT_10, O_10, Y0_10, Y1_10, Y2_10⟩ := Z_10
  have N_10 : σ10.2.1.length = o + 50 := by omega
  have T_10 : σ10.1 = σ.1 + 3121 := by omega
  have X_10 : Ex σ σ10 o := X_9.call E_10 (by omega)
  have K_0_10 : σ10.2.1[o]? = some (9, 0) := E_10.1 _ _ K_0_9
  have K_1_10 : σ10.2.1[o + 1]? = some (21, 700) := E_10.1 _ _ K_1_9
  have K_2_10 : σ10.2.1[o + 2]? = some (5, 0) := E_10.1 _ _ K_2_9
  have K_22_10 : σ10.2.1[o + 22]? = some (4, 0) := E_10.1 _ _ K_22_9
  have K_36_10 : σ10.2.1[o + 36]? = some (4, 0) := E_10.1 _ _ K_36_9
  have G_0_0_10 : σ10.2.2.1 o 0 = some (o + 1) := by rw [(E_10.2 _ (by omega) (by omega)).1]; exact G_0_0_9
  have G_0_2_10 : σ10.2.2.1 o 2 = some (o + 2) := by rw [(E_10.2 _ (by omega) (by omega)).1]; exact G_0_2_9
  have G_0_3_10 : σ10.2.2.1 o 3 = some (o + 22) := by rw [(E_10.2 _ (by omega) (by omega)).1]; exact G_0_3_9
  have S_0_10 : isRd (mBo σ10) (o + 2) := isRd_ext S_0_9 E_10.1 (fun q h1 h2 => (E_10.2 q (by omega) (by omega)).1)
  have S_1_10 : isPrg (mBo σ10) (o + 22) := isPrg_ext S_1_9 E_10.1 (fun q h1 h2 => (E_10.2 q (by omega) (by omega)).1)
  have R_0_10 : σ10.2.2.2.1 o = fun _ => 0 := by rw [(E_10.2 _ (by omega) (by omega)).2.1]; exact R_0_9
  have R_1_10 : σ10.2.2.2.1 (o + 1) = fun _ => 0 := by rw [(E_10.2 _ (by omega) (by omega)).2.1]; exact R_1_9
  have R_3_10 : σ10.2.2.2.1 (o + 3) = (FX5_init_t (fun _ => 0)).2 := by rw [(E_10.2 _ (by omega) (by omega)).2.1]; exact R_3_9
  have R_22_10 : σ10.2.2.2.1 (o + 22) = (FX4_empty (fun _ => 0) (fun _ => 0)).2.1 := by rw [(E_10.2 _ (by omega) (by omega)).2.1]; exact R_22_9
  have R_35_10 : σ10.2.2.2.1 (o + 35) = (FX4_empty (fun _ => 0) (fun _ => 0)).2.2 := by rw [(E_10.2 _ (by omega) (by omega)).2.1]; exact R_35_9
  have S_2_10 : isPrg (mBo σ10) (o + 36) := Y0_10
  have R_36_10 : σ10.2.2.2.1 (o + 36) = (FX4_empty (fun _ => 0) (fun _ => 0)).2.1 := Y1_10
  have R_49_10 : σ10.2.2.2.1 (o + 49) = (FX4_empty (fun _ => 0) (fun _ => 0)).2.2 := Y2_10
  clear K_0_9 K_1_9 K_2_9 K_22_9 K_36_9 G_0_0_9 G_0_2_9 G_0_3_9 S_0_9 S_1_9 R_0_9 R_1_9 R_3_9 R_22_9 R_35_9 R_36_9 N_9 T_9 O_9 X_9 E_10 NN_10 TT_10 Y0_10 Y1_10 Y2_10 σ9
  show RC _ _ _ [some (.ref o)] [.ref (o + 36), .ref o] σ10 _
  refine c_putr K_0_10 ?_
  obtain ⟨σ11, e11⟩ : ∃ x, x = mPr σ10 o 4 (some (o + 36)) := ⟨_, rfl⟩
  rw [← e11]
  have N_11 : σ11.2.1.length = o + 50 := by rw [e11]; exact N_10
  have T_11 : σ11.1 = σ.1 + 3121 := by rw [e11]; exact T_10
  have O_11 : rOK σ11 := by rw [e11]; exact rOK_pr O_10 (by omega)
  have X_11 : Ex σ σ11 o := by rw [e11]; exact X_10.pr (by omega)
  have K_0_11 : σ11.2.1[o]? = some (9, 0) := by rw [e11]; exact K_0_10
  have K_1_11 : σ11.2.1[o + 1]? = some (21, 700) := by rw [e11]; exact K_1_10
  have K_2_11 : σ11.2.1[o + 2]? = some (5, 0) := by rw [e11]; exact K_2_10
  have K_22_11 : σ11.2.1[o + 22]? = some (4, 0) := by rw [e11]; exact K_22_10
  have K_36_11 : σ11.2.1[o + 36]? = some (4, 0) := by rw [e11]; exact K_36_10
  have G_0_0_11 : σ11.2.2.1 o 0 = some (o + 1) := by rw [e11]; exact g_prK (by decide) G_0_0_10
  have G_0_2_11 : σ11.2.2.1 o 2 = some (o + 2) := by rw [e11]; exact g_prK (by decide) G_0_2_10
  have G_0_3_11 : σ11.2.2.1 o 3 = some (o + 22) := by rw [e11]; exact g_prK (by decide) G_0_3_10
  have S_0_11 : isRd (mBo σ11) (o + 2) := by rw [e11]; exact isRd_ext S_0_10 (fun q x h => h) (fun q h1 h2 => mup_ne (by omega))
  have S_1_11 : isPrg (mBo σ11) (o + 22) := by rw [e11]; exact isPrg_ext S_1_10 (fun q x h => h) (fun q h1 h2 => mup_ne (by omega))
  have S_2_11 : isPrg (mBo σ11) (o + 36) := by rw [e11]; exact isPrg_ext S_2_10 (fun q x h => h) (fun q h1 h2 => mup_ne (by omega))
  have R_0_11 : σ11.2.2.2.1 o = fun _ => 0 := by rw [e11]; exact R_0_10
  have R_1_11 : σ11.2.2.2.1 (o + 1) = fun _ => 0 := by rw [e11]; exact R_1_10
  have R_3_11 : σ11.2.2.2.1 (o + 3) = (FX5_init_t (fun _ => 0)).2 := by rw [e11]; exact R_3_10
  have R_22_11 : σ11.2.2.2.1 (o + 22) = (FX4_empty (fun _ => 0) (fun _ => 0)).2.1 := by rw [e11]; exact R_22_10
  have R_35_11 : σ11.2.2.2.1 (o + 35) = (FX4_empty (fun _ => 0) (fun _ => 0)).2.2 := by rw [e11]; exact R_35_10
  have R_36_11 : σ11.2.2.2.1 (o + 36) = (FX4_empty (fun _ => 0) (fun _ => 0)).2.1 := by rw [e11]; exact R_36_10
  have R_49_11 : σ11.2.2.2.1 (o + 49) = (FX4_empty (fun _ => 0) (fun _ => 0)).2.2 := by rw [e11]; exact R_49_10
  have G_0_4_11 : σ11.2.2.1 o 4 = some (o + 36) := by rw [e11]; exact g_prS
  clear K_0_10 K_1_10 K_2_10 K_22_10 K_36_10 G_0_0_10 G_0_2_10 G_0_3_10 S_0_10 S_1_10 S_2_10 R_0_10 R_1_10 R_3_10 R_22_10 R_35_10 R_36_10 R_49_10 N_10 T_10 O_10 X_10 e11 σ10
  show RC _ _ _ [some (.ref o)] [] σ11 _
  refine c_aload rfl ?_
  refine c_new (k := 8) (mOut_lt (ltL [o] rfl (List.forall_mem_cons.mpr ⟨by omega, (fun _ h => absurd h List.not_mem_nil)⟩)) (ltS [o] rfl (List.forall_mem_cons.mpr ⟨by omega, (fun _ h => absurd h List.not_mem_nil)⟩))) O_11 ?_
  obtain ⟨σ12, e12⟩ : ∃ x, x = mNew σ11 8 0 (mFt.getD 8 []).length := ⟨_, rfl⟩
  rw [← e12, show σ11.2.1.length = o + 50 by omega]
  have N_12 : σ12.2.1.length = o + 51 := by rw [e12, len_new]; omega
  have T_12 : σ12.1 = σ.1 + 3124 := by rw [e12]; show σ11.1 + 3 = _; omega
  have O_12 : rOK σ12 := by rw [e12]; exact rOK_new O_11
  have X_12 : Ex σ σ12 o := by rw [e12]; exact X_11.new (by omega)
  have K_0_12 : σ12.2.1[o]? = some (9, 0) := by rw [e12]; exact k_new K_0_11
  have K_1_12 : σ12.2.1[o + 1]? = some (21, 700) := by rw [e12]; exact k_new K_1_11
  have K_2_12 : σ12.2.1[o + 2]? = some (5, 0) := by rw [e12]; exact k_new K_2_11
  have K_22_12 : σ12.2.1[o + 22]? = some (4, 0) := by rw [e12]; exact k_new K_22_11
  have K_36_12 : σ12.2.1[o + 36]? = some (4, 0) := by rw [e12]; exact k_new K_36_11
  have G_0_0_12 : σ12.2.2.1 o 0 = some (o + 1) := by rw [e12]; exact g_new (by omega) G_0_0_11
  have G_0_2_12 : σ12.2.2.1 o 2 = some (o + 2) := by rw [e12]; exact g_new (by omega) G_0_2_11
  have G_0_3_12 : σ12.2.2.1 o 3 = some (o + 22) := by rw [e12]; exact g_new (by omega) G_0_3_11
  have G_0_4_12 : σ12.2.2.1 o 4 = some (o + 36) := by rw [e12]; exact g_new (by omega) G_0_4_11
  have S_0_12 : isRd (mBo σ12) (o + 2) := by rw [e12]; exact isRd_ext S_0_11 (fun q x h => k_new h) (fun q h1 h2 => mup_ne (by omega))
  have S_1_12 : isPrg (mBo σ12) (o + 22) := by rw [e12]; exact isPrg_ext S_1_11 (fun q x h => k_new h) (fun q h1 h2 => mup_ne (by omega))
  have S_2_12 : isPrg (mBo σ12) (o + 36) := by rw [e12]; exact isPrg_ext S_2_11 (fun q x h => k_new h) (fun q h1 h2 => mup_ne (by omega))
  have R_0_12 : σ12.2.2.2.1 o = fun _ => 0 := by rw [e12]; exact (mup_ne (by omega)).trans R_0_11
  have R_1_12 : σ12.2.2.2.1 (o + 1) = fun _ => 0 := by rw [e12]; exact (mup_ne (by omega)).trans R_1_11
  have R_3_12 : σ12.2.2.2.1 (o + 3) = (FX5_init_t (fun _ => 0)).2 := by rw [e12]; exact (mup_ne (by omega)).trans R_3_11
  have R_22_12 : σ12.2.2.2.1 (o + 22) = (FX4_empty (fun _ => 0) (fun _ => 0)).2.1 := by rw [e12]; exact (mup_ne (by omega)).trans R_22_11
  have R_35_12 : σ12.2.2.2.1 (o + 35) = (FX4_empty (fun _ => 0) (fun _ => 0)).2.2 := by rw [e12]; exact (mup_ne (by omega)).trans R_35_11
  have R_36_12 : σ12.2.2.2.1 (o + 36) = (FX4_empty (fun _ => 0) (fun _ => 0)).2.1 := by rw [e12]; exact (mup_ne (by omega)).trans R_36_11
  have R_49_12 : σ12.2.2.2.1 (o + 49) = (FX4_empty (fun _ => 0) (fun _ => 0)).2.2 := by rw [e12]; exact (mup_ne (by omega)).trans R_49_11
  have K_50_12 : σ12.2.1[o + 50]? = some (8, 0) := by rw [e12, ← show σ11.2.1.length = o + 50 by omega]; exact k_newS
  have R_50_12 : σ12.2.2.2.1 (o + 50) = fun _ => 0 := by rw [e12, ← show σ11.2.1.length = o + 50 by omega]; exact mup_eq
  clear K_0_11 K_1_11 K_2_11 K_22_11 K_36_11 G_0_0_11 G_0_2_11 G_0_3_11 G_0_4_11 S_0_11 S_1_11 S_2_11 R_0_11 R_1_11 R_3_11 R_22_11 R_35_11 R_36_11 R_49_11 N_11 T_11 O_11 X_11 e12 σ11
  show RC _ _ _ [some (.ref o)] [.ref (o + 50), .ref o] σ12 _
  refine c_dup rfl ?_
  refine c_call (o := o + 50) (as := []) (st := [.ref (o + 50), .ref o]) (rfl) rfl (Nat.le_of_ble_eq_true rfl) (Or.inr rfl) (ltL [o] rfl (List.forall_mem_cons.mpr ⟨by omega, (fun _ h => absurd h List.not_mem_nil)⟩)) (ltS [o + 50, o] rfl (List.forall_mem_cons.mpr ⟨by omega, (List.forall_mem_cons.mpr ⟨by omega, (fun _ h => absurd h List.not_mem_nil)⟩)⟩)) (nY8_init (by omega) O_12 R_50_12 K_50_12 (by omega)) (fun σ13 Z_13 => ?_)
  obtain ⟨E_13, NN_13, TT_13, O_13, Y0_13, Y1_13, Y2_13, Y3_13, Y4_13⟩ := Z_13
  have N_13 : σ13.2.1.length = o + 76 := by omega
  have T_13 : σ13.1 = σ.1 + 3721 := by omega
  have X_13 : Ex σ σ13 o := X_12.call E_13 (by omega)
  have K_0_13 : σ13.2.1[o]? = some (9, 0) := E_13.1 _ _ K_0_12
  have K_1_13 : σ13.2.1[o + 1]? = some (21, 700) := E_13.1 _ _ K_1_12
  have K_2_13 : σ13.2.1[o + 2]? = some (5, 0) := E_13.1 _ _ K_2_12
  have K_22_13 : σ13.2.1[o + 22]? = some (4, 0) := E_13.1 _ _ K_22_12
  have K_36_13 : σ13.2.1[o + 36]? = some (4, 0) := E_13.1 _ _ K_36_12
  have K_50_13 : σ13.2.1[o + 50]? = some (8, 0) := E_13.1 _ _ K_50_12
  have G_0_0_13 : σ13.2.2.1 o 0 = some (o + 1) := by rw [(E_13.2 _ (by omega) (by omega)).1]; exact G_0_0_12
  have G_0_2_13 : σ13.2.2.1 o 2 = some (o + 2) := by rw [(E_13.2 _ (by omega) (by omega)).1]; exact G_0_2_12
  have G_0_3_13 : σ13.2.2.1 o 3 = some (o + 22) := by rw [(E_13.2 _ (by omega) (by omega)).1]; exact G_0_3_12
  have G_0_4_13 : σ13.2.2.1 o 4 = some (o + 36) := by rw [(E_13.2 _ (by omega) (by omega)).1]; exact G_0_4_12
  have S_0_13 : isRd (mBo σ13) (o + 2) := isRd_ext S_0_12 E_13.1 (fun q h1 h2 => (E_13.2 q (by omega) (by omega)).1)
  have S_1_13 : isPrg (mBo σ13) (o + 22) := isPrg_ext S_1_12 E_13.1 (fun q h1 h2 => (E_13.2 q (by omega) (by omega)).1)
  have S_2_13 : isPrg (mBo σ13) (o + 36) := isPrg_ext S_2_12 E_13.1 (fun q h1 h2 => (E_13.2 q (by omega) (by omega)).1)
  have R_0_13 : σ13.2.2.2.1 o = fun _ => 0 := by rw [(E_13.2 _ (by omega) (by omega)).2.1]; exact R_0_12
  have R_1_13 : σ13.2.2.2.1 (o + 1) = fun _ => 0 := by rw [(E_13.2 _ (by omega) (by omega)).2.1]; exact R_1_12
  have R_3_13 : σ13.2.2.2.1 (o + 3) = (FX5_init_t (fun _ => 0)).2 := by rw [(E_13.2 _ (by omega) (by omega)).2.1]; exact R_3_12
  have R_22_13 : σ13.2.2.2.1 (o + 22) = (FX4_empty (fun _ => 0) (fun _ => 0)).2.1 := by rw [(E_13.2 _ (by omega) (by omega)).2.1]; exact R_22_12
  have R_35_13 : σ13.2.2.2.1 (o + 35) = (FX4_empty (fun _ => 0) (fun _ => 0)).2.2 := by rw [(E_13.2 _ (by omega) (by omega)).2.1]; exact R_35_12
  have R_36_13 : σ13.2.2.2.1 (o + 36) = (FX4_empty (fun _ => 0) (fun _ => 0)).2.1 := by rw [(E_13.2 _ (by omega) (by omega)).2.1]; exact R_36_12
  have R_49_13 : σ13.2.2.2.1 (o + 49) = (FX4_empty (fun _ => 0) (fun _ => 0)).2.2 := by rw [(E_13.2 _ (by omega) (by omega)).2.1]; exact R_49_12
  have S_3_13 : isWorld (mBo σ13) (o + 50) := Y0_13
  have R_54_13 : σ13.2.2.2.1 (o + 54) = upd (fun _ => 0) 0 0 := Y1_13
  have R_65_13 : σ13.2.2.2.1 (o + 65) = upd (fun _ => 0) 0 1 := Y2_13
  have R_61_13 : σ13.2.2.2.1 (o + 61) = fun _ => 0 := Y3_13
  have R_72_13 : σ13.2.2.2.1 (o + 72) = fun _ => 0 := Y4_13
  clear K_0_12 K_1_12 K_2_12 K_22_12 K_36_12 K_50_12 G_0_0_12 G_0_2_12 G_0_3_12 G_0_4_12 S_0_12 S_1_12 S_2_12 R_0_12 R_1_12 R_3_12 R_22_12 R_35_12 R_36_12 R_49_12 R_50_12 N_12 T_12 O_12 X_12 E_13 NN_13 TT_13 Y0_13 Y1_13 Y2_13 Y3_13 Y4_13 σ12
  show RC _ _ _ [some (.ref o)] [.ref (o + 50), .ref o] σ13 _
  refine c_putr K_0_13 ?_
  obtain ⟨σ14, e14⟩ : ∃ x, x = mPr σ13 o 5 (some (o + 50)) := ⟨_, rfl⟩
  rw [← e14]
  have N_14 : σ14.2.1.length = o + 76 := by rw [e14]; exact N_13
  have T_14 : σ14.1 = σ.1 + 3721 := by rw [e14]; exact T_13
  have O_14 : rOK σ14 := by rw [e14]; exact rOK_pr O_13 (by omega)
  have X_14 : Ex σ σ14 o := by rw [e14]; exact X_13.pr (by omega)
  have K_0_14 : σ14.2.1[o]? = some (9, 0) := by rw [e14]; exact K_0_13
  have K_1_14 : σ14.2.1[o + 1]? = some (21, 700) := by rw [e14]; exact K_1_13
  have K_2_14 : σ14.2.1[o + 2]? = some (5, 0) := by rw [e14]; exact K_2_13
  have K_22_14 : σ14.2.1[o + 22]? = some (4, 0) := by rw [e14]; exact K_22_13
  have K_36_14 : σ14.2.1[o + 36]? = some (4, 0) := by rw [e14]; exact K_36_13
  have K_50_14 : σ14.2.1[o + 50]? = some (8, 0) := by rw [e14]; exact K_50_13
  have G_0_0_14 : σ14.2.2.1 o 0 = some (o + 1) := by rw [e14]; exact g_prK (by decide) G_0_0_13
  have G_0_2_14 : σ14.2.2.1 o 2 = some (o + 2) := by rw [e14]; exact g_prK (by decide) G_0_2_13
  have G_0_3_14 : σ14.2.2.1 o 3 = some (o + 22) := by rw [e14]; exact g_prK (by decide) G_0_3_13
  have G_0_4_14 : σ14.2.2.1 o 4 = some (o + 36) := by rw [e14]; exact g_prK (by decide) G_0_4_13
  have S_0_14 : isRd (mBo σ14) (o + 2) := by rw [e14]; exact isRd_ext S_0_13 (fun q x h => h) (fun q h1 h2 => mup_ne (by omega))
  have S_1_14 : isPrg (mBo σ14) (o + 22) := by rw [e14]; exact isPrg_ext S_1_13 (fun q x h => h) (fun q h1 h2 => mup_ne (by omega))
  have S_2_14 : isPrg (mBo σ14) (o + 36) := by rw [e14]; exact isPrg_ext S_2_13 (fun q x h => h) (fun q h1 h2 => mup_ne (by omega))
  have S_3_14 : isWorld (mBo σ14) (o + 50) := by rw [e14]; exact isWorld_ext S_3_13 (fun q x h => h) (fun q h1 h2 => mup_ne (by omega))
  have R_0_14 : σ14.2.2.2.1 o = fun _ => 0 := by rw [e14]; exact R_0_13
  have R_1_14 : σ14.2.2.2.1 (o + 1) = fun _ => 0 := by rw [e14]; exact R_1_13
  have R_3_14 : σ14.2.2.2.1 (o + 3) = (FX5_init_t (fun _ => 0)).2 := by rw [e14]; exact R_3_13
  have R_22_14 : σ14.2.2.2.1 (o + 22) = (FX4_empty (fun _ => 0) (fun _ => 0)).2.1 := by rw [e14]; exact R_22_13
  have R_35_14 : σ14.2.2.2.1 (o + 35) = (FX4_empty (fun _ => 0) (fun _ => 0)).2.2 := by rw [e14]; exact R_35_13
  have R_36_14 : σ14.2.2.2.1 (o + 36) = (FX4_empty (fun _ => 0) (fun _ => 0)).2.1 := by rw [e14]; exact R_36_13
  have R_49_14 : σ14.2.2.2.1 (o + 49) = (FX4_empty (fun _ => 0) (fun _ => 0)).2.2 := by rw [e14]; exact R_49_13
  have R_54_14 : σ14.2.2.2.1 (o + 54) = upd (fun _ => 0) 0 0 := by rw [e14]; exact R_54_13
  have R_65_14 : σ14.2.2.2.1 (o + 65) = upd (fun _ => 0) 0 1 := by rw [e14]; exact R_65_13
  have R_61_14 : σ14.2.2.2.1 (o + 61) = fun _ => 0 := by rw [e14]; exact R_61_13
  have R_72_14 : σ14.2.2.2.1 (o + 72) = fun _ => 0 := by rw [e14]; exact R_72_13
  have G_0_5_14 : σ14.2.2.1 o 5 = some (o + 50) := by rw [e14]; exact g_prS
  clear K_0_13 K_1_13 K_2_13 K_22_13 K_36_13 K_50_13 G_0_0_13 G_0_2_13 G_0_3_13 G_0_4_13 S_0_13 S_1_13 S_2_13 S_3_13 R_0_13 R_1_13 R_3_13 R_22_13 R_35_13 R_36_13 R_49_13 R_54_13 R_65_13 R_61_13 R_72_13 N_13 T_13 O_13 X_13 e14 σ13
  show RC _ _ _ [some (.ref o)] [] σ14 _
  refine c_aload rfl ?_
  refine c_new (k := 8) (mOut_lt (ltL [o] rfl (List.forall_mem_cons.mpr ⟨by omega, (fun _ h => absurd h List.not_mem_nil)⟩)) (ltS [o] rfl (List.forall_mem_cons.mpr ⟨by omega, (fun _ h => absurd h List.not_mem_nil)⟩))) O_14 ?_
  obtain ⟨σ15, e15⟩ : ∃ x, x = mNew σ14 8 0 (mFt.getD 8 []).length := ⟨_, rfl⟩
  rw [← e15, show σ14.2.1.length = o + 76 by omega]
  have N_15 : σ15.2.1.length = o + 77 := by rw [e15, len_new]; omega
  have T_15 : σ15.1 = σ.1 + 3724 := by rw [e15]; show σ14.1 + 3 = _; omega
  have O_15 : rOK σ15 := by rw [e15]; exact rOK_new O_14
  have X_15 : Ex σ σ15 o := by rw [e15]; exact X_14.new (by omega)
  have K_0_15 : σ15.2.1[o]? = some (9, 0) := by rw [e15]; exact k_new K_0_14
  have K_1_15 : σ15.2.1[o + 1]? = some (21, 700) := by rw [e15]; exact k_new K_1_14
  have K_2_15 : σ15.2.1[o + 2]? = some (5, 0) := by rw [e15]; exact k_new K_2_14
  have K_22_15 : σ15.2.1[o + 22]? = some (4, 0) := by rw [e15]; exact k_new K_22_14
  have K_36_15 : σ15.2.1[o + 36]? = some (4, 0) := by rw [e15]; exact k_new K_36_14
  have K_50_15 : σ15.2.1[o + 50]? = some (8, 0) := by rw [e15]; exact k_new K_50_14
  have G_0_0_15 : σ15.2.2.1 o 0 = some (o + 1) := by rw [e15]; exact g_new (by omega) G_0_0_14
  have G_0_2_15 : σ15.2.2.1 o 2 = some (o + 2) := by rw [e15]; exact g_new (by omega) G_0_2_14
  have G_0_3_15 : σ15.2.2.1 o 3 = some (o + 22) := by rw [e15]; exact g_new (by omega) G_0_3_14
  have G_0_4_15 : σ15.2.2.1 o 4 = some (o + 36) := by rw [e15]; exact g_new (by omega) G_0_4_14
  have G_0_5_15 : σ15.2.2.1 o 5 = some (o + 50) := by rw [e15]; exact g_new (by omega) G_0_5_14
  have S_0_15 : isRd (mBo σ15) (o + 2) := by rw [e15]; exact isRd_ext S_0_14 (fun q x h => k_new h) (fun q h1 h2 => mup_ne (by omega))
  have S_1_15 : isPrg (mBo σ15) (o + 22) := by rw [e15]; exact isPrg_ext S_1_14 (fun q x h => k_new h) (fun q h1 h2 => mup_ne (by omega))
  have S_2_15 : isPrg (mBo σ15) (o + 36) := by rw [e15]; exact isPrg_ext S_2_14 (fun q x h => k_new h) (fun q h1 h2 => mup_ne (by omega))
  have S_3_15 : isWorld (mBo σ15) (o + 50) := by rw [e15]; exact isWorld_ext S_3_14 (fun q x h => k_new h) (fun q h1 h2 => mup_ne (by omega))
  have R_0_15 : σ15.2.2.2.1 o = fun _ => 0 := by rw [e15]; exact (mup_ne (by omega)).trans R_0_14
  have R_1_15 : σ15.2.2.2.1 (o + 1) = fun _ => 0 := by rw [e15]; exact (mup_ne (by omega)).trans R_1_14
  have R_3_15 : σ15.2.2.2.1 (o + 3) = (FX5_init_t (fun _ => 0)).2 := by rw [e15]; exact (mup_ne (by omega)).trans R_3_14
  have R_22_15 : σ15.2.2.2.1 (o + 22) = (FX4_empty (fun _ => 0) (fun _ => 0)).2.1 := by rw [e15]; exact (mup_ne (by omega)).trans R_22_14
  have R_35_15 : σ15.2.2.2.1 (o + 35) = (FX4_empty (fun _ => 0) (fun _ => 0)).2.2 := by rw [e15]; exact (mup_ne (by omega)).trans R_35_14
  have R_36_15 : σ15.2.2.2.1 (o + 36) = (FX4_empty (fun _ => 0) (fun _ => 0)).2.1 := by rw [e15]; exact (mup_ne (by omega)).trans R_36_14
  have R_49_15 : σ15.2.2.2.1 (o + 49) = (FX4_empty (fun _ => 0) (fun _ => 0)).2.2 := by rw [e15]; exact (mup_ne (by omega)).trans R_49_14
  have R_54_15 : σ15.2.2.2.1 (o + 54) = upd (fun _ => 0) 0 0 := by rw [e15]; exact (mup_ne (by omega)).trans R_54_14
  have R_65_15 : σ15.2.2.2.1 (o + 65) = upd (fun _ => 0) 0 1 := by rw [e15]; exact (mup_ne (by omega)).trans R_65_14
  have R_61_15 : σ15.2.2.2.1 (o + 61) = fun _ => 0 := by rw [e15]; exact (mup_ne (by omega)).trans R_61_14
  have R_72_15 : σ15.2.2.2.1 (o + 72) = fun _ => 0 := by rw [e15]; exact (mup_ne (by omega)).trans R_72_14
  have K_76_15 : σ15.2.1[o + 76]? = some (8, 0) := by rw [e15, ← show σ14.2.1.length = o + 76 by omega]; exact k_newS
  have R_76_15 : σ15.2.2.2.1 (o + 76) = fun _ => 0 := by rw [e15, ← show σ14.2.1.length = o + 76 by omega]; exact mup_eq
  clear K_0_14 K_1_14 K_2_14 K_22_14 K_36_14 K_50_14 G_0_0_14 G_0_2_14 G_0_3_14 G_0_4_14 G_0_5_14 S_0_14 S_1_14 S_2_14 S_3_14 R_0_14 R_1_14 R_3_14 R_22_14 R_35_14 R_36_14 R_49_14 R_54_14 R_65_14 R_61_14 R_72_14 N_14 T_14 O_14 X_14 e15 σ14
  show RC _ _ _ [some (.ref o)] [.ref (o + 76), .ref o] σ15 _
  refine c_dup rfl ?_
  refine c_call (o := o + 76) (as := []) (st := [.ref (o + 76), .ref o]) (rfl) rfl (Nat.le_of_ble_eq_true rfl) (Or.inr rfl) (ltL [o] rfl (List.forall_mem_cons.mpr ⟨by omega, (fun _ h => absurd h List.not_mem_nil)⟩)) (ltS [o + 76, o] rfl (List.forall_mem_cons.mpr ⟨by omega, (List.forall_mem_cons.mpr ⟨by omega, (fun _ h => absurd h List.not_mem_nil)⟩)⟩)) (nY8_init (by omega) O_15 R_76_15 K_76_15 (by omega)) (fun σ16 Z_16 => ?_)
  obtain ⟨E_16, NN_16, TT_16, O_16, Y0_16, Y1_16, Y2_16, Y3_16, Y4_16⟩ := Z_16
  have N_16 : σ16.2.1.length = o + 102 := by omega
  have T_16 : σ16.1 = σ.1 + 4321 := by omega
  have X_16 : Ex σ σ16 o := X_15.call E_16 (by omega)
  have K_0_16 : σ16.2.1[o]? = some (9, 0) := E_16.1 _ _ K_0_15
  have K_1_16 : σ16.2.1[o + 1]? = some (21, 700) := E_16.1 _ _ K_1_15
  have K_2_16 : σ16.2.1[o + 2]? = some (5, 0) := E_16.1 _ _ K_2_15
  have K_22_16 : σ16.2.1[o + 22]? = some (4, 0) := E_16.1 _ _ K_22_15
  have K_36_16 : σ16.2.1[o + 36]? = some (4, 0) := E_16.1 _ _ K_36_15
  have K_50_16 : σ16.2.1[o + 50]? = some (8, 0) := E_16.1 _ _ K_50_15
  have K_76_16 : σ16.2.1[o + 76]? = some (8, 0) := E_16.1 _ _ K_76_15
  have G_0_0_16 : σ16.2.2.1 o 0 = some (o + 1) := by rw [(E_16.2 _ (by omega) (by omega)).1]; exact G_0_0_15
  have G_0_2_16 : σ16.2.2.1 o 2 = some (o + 2) := by rw [(E_16.2 _ (by omega) (by omega)).1]; exact G_0_2_15
  have G_0_3_16 : σ16.2.2.1 o 3 = some (o + 22) := by rw [(E_16.2 _ (by omega) (by omega)).1]; exact G_0_3_15
  have G_0_4_16 : σ16.2.2.1 o 4 = some (o + 36) := by rw [(E_16.2 _ (by omega) (by omega)).1]; exact G_0_4_15
  have G_0_5_16 : σ16.2.2.1 o 5 = some (o + 50) := by rw [(E_16.2 _ (by omega) (by omega)).1]; exact G_0_5_15
  have S_0_16 : isRd (mBo σ16) (o + 2) := isRd_ext S_0_15 E_16.1 (fun q h1 h2 => (E_16.2 q (by omega) (by omega)).1)
  have S_1_16 : isPrg (mBo σ16) (o + 22) := isPrg_ext S_1_15 E_16.1 (fun q h1 h2 => (E_16.2 q (by omega) (by omega)).1)
  have S_2_16 : isPrg (mBo σ16) (o + 36) := isPrg_ext S_2_15 E_16.1 (fun q h1 h2 => (E_16.2 q (by omega) (by omega)).1)
  have S_3_16 : isWorld (mBo σ16) (o + 50) := isWorld_ext S_3_15 E_16.1 (fun q h1 h2 => (E_16.2 q (by omega) (by omega)).1)
  have R_0_16 : σ16.2.2.2.1 o = fun _ => 0 := by rw [(E_16.2 _ (by omega) (by omega)).2.1]; exact R_0_15
  have R_1_16 : σ16.2.2.2.1 (o + 1) = fun _ => 0 := by rw [(E_16.2 _ (by omega) (by omega)).2.1]; exact R_1_15
  have R_3_16 : σ16.2.2.2.1 (o + 3) = (FX5_init_t (fun _ => 0)).2 := by rw [(E_16.2 _ (by omega) (by omega)).2.1]; exact R_3_15
  have R_22_16 : σ16.2.2.2.1 (o + 22) = (FX4_empty (fun _ => 0) (fun _ => 0)).2.1 := by rw [(E_16.2 _ (by omega) (by omega)).2.1]; exact R_22_15
  have R_35_16 : σ16.2.2.2.1 (o + 35) = (FX4_empty (fun _ => 0) (fun _ => 0)).2.2 := by rw [(E_16.2 _ (by omega) (by omega)).2.1]; exact R_35_15
  have R_36_16 : σ16.2.2.2.1 (o + 36) = (FX4_empty (fun _ => 0) (fun _ => 0)).2.1 := by rw [(E_16.2 _ (by omega) (by omega)).2.1]; exact R_36_15
  have R_49_16 : σ16.2.2.2.1 (o + 49) = (FX4_empty (fun _ => 0) (fun _ => 0)).2.2 := by rw [(E_16.2 _ (by omega) (by omega)).2.1]; exact R_49_15
  have R_54_16 : σ16.2.2.2.1 (o + 54) = upd (fun _ => 0) 0 0 := by rw [(E_16.2 _ (by omega) (by omega)).2.1]; exact R_54_15
  have R_65_16 : σ16.2.2.2.1 (o + 65) = upd (fun _ => 0) 0 1 := by rw [(E_16.2 _ (by omega) (by omega)).2.1]; exact R_65_15
  have R_61_16 : σ16.2.2.2.1 (o + 61) = fun _ => 0 := by rw [(E_16.2 _ (by omega) (by omega)).2.1]; exact R_61_15
  have R_72_16 : σ16.2.2.2.1 (o + 72) = fun _ => 0 := by rw [(E_16.2 _ (by omega) (by omega)).2.1]; exact R_72_15
  have S_4_16 : isWorld (mBo σ16) (o + 76) := Y0_16
  have R_80_16 : σ16.2.2.2.1 (o + 80) = upd (fun _ => 0) 0 0 := Y1_16
  have R_91_16 : σ16.2.2.2.1 (o + 91) = upd (fun _ => 0) 0 1 := Y2_16
  have R_87_16 : σ16.2.2.2.1 (o + 87) = fun _ => 0 := Y3_16
  have R_98_16 : σ16.2.2.2.1 (o + 98) = fun _ => 0 := Y4_16
  clear K_0_15 K_1_15 K_2_15 K_22_15 K_36_15 K_50_15 K_76_15 G_0_0_15 G_0_2_15 G_0_3_15 G_0_4_15 G_0_5_15 S_0_15 S_1_15 S_2_15 S_3_15 R_0_15 R_1_15 R_3_15 R_22_15 R_35_15 R_36_15 R_49_15 R_54_15 R_65_15 R_61_15 R_72_15 R_76_15 N_15 T_15 O_15 X_15 E_16 NN_16 TT_16 Y0_16 Y1_16 Y2_16 Y3_16 Y4_16 σ15
  show RC _ _ _ [some (.ref o)] [.ref (o + 76), .ref o] σ16 _
  refine c_putr K_0_16 ?_
  obtain ⟨σ17, e17⟩ : ∃ x, x = mPr σ16 o 6 (some (o + 76)) := ⟨_, rfl⟩
  rw [← e17]
  have N_17 : σ17.2.1.length = o + 102 := by rw [e17]; exact N_16
  have T_17 : σ17.1 = σ.1 + 4321 := by rw [e17]; exact T_16
  have O_17 : rOK σ17 := by rw [e17]; exact rOK_pr O_16 (by omega)
  have X_17 : Ex σ σ17 o := by rw [e17]; exact X_16.pr (by omega)
  have K_0_17 : σ17.2.1[o]? = some (9, 0) := by rw [e17]; exact K_0_16
  have K_1_17 : σ17.2.1[o + 1]? = some (21, 700) := by rw [e17]; exact K_1_16
  have K_2_17 : σ17.2.1[o + 2]? = some (5, 0) := by rw [e17]; exact K_2_16
  have K_22_17 : σ17.2.1[o + 22]? = some (4, 0) := by rw [e17]; exact K_22_16
  have K_36_17 : σ17.2.1[o + 36]? = some (4, 0) := by rw [e17]; exact K_36_16
  have K_50_17 : σ17.2.1[o + 50]? = some (8, 0) := by rw [e17]; exact K_50_16
  have K_76_17 : σ17.2.1[o + 76]? = some (8, 0) := by rw [e17]; exact K_76_16
  have G_0_0_17 : σ17.2.2.1 o 0 = some (o + 1) := by rw [e17]; exact g_prK (by decide) G_0_0_16
  have G_0_2_17 : σ17.2.2.1 o 2 = some (o + 2) := by rw [e17]; exact g_prK (by decide) G_0_2_16
  have G_0_3_17 : σ17.2.2.1 o 3 = some (o + 22) := by rw [e17]; exact g_prK (by decide) G_0_3_16
  have G_0_4_17 : σ17.2.2.1 o 4 = some (o + 36) := by rw [e17]; exact g_prK (by decide) G_0_4_16
  have G_0_5_17 : σ17.2.2.1 o 5 = some (o + 50) := by rw [e17]; exact g_prK (by decide) G_0_5_16
  have S_0_17 : isRd (mBo σ17) (o + 2) := by rw [e17]; exact isRd_ext S_0_16 (fun q x h => h) (fun q h1 h2 => mup_ne (by omega))
  have S_1_17 : isPrg (mBo σ17) (o + 22) := by rw [e17]; exact isPrg_ext S_1_16 (fun q x h => h) (fun q h1 h2 => mup_ne (by omega))
  have S_2_17 : isPrg (mBo σ17) (o + 36) := by rw [e17]; exact isPrg_ext S_2_16 (fun q x h => h) (fun q h1 h2 => mup_ne (by omega))
  have S_3_17 : isWorld (mBo σ17) (o + 50) := by rw [e17]; exact isWorld_ext S_3_16 (fun q x h => h) (fun q h1 h2 => mup_ne (by omega))
  have S_4_17 : isWorld (mBo σ17) (o + 76) := by rw [e17]; exact isWorld_ext S_4_16 (fun q x h => h) (fun q h1 h2 => mup_ne (by omega))
  have R_0_17 : σ17.2.2.2.1 o = fun _ => 0 := by rw [e17]; exact R_0_16
  have R_1_17 : σ17.2.2.2.1 (o + 1) = fun _ => 0 := by rw [e17]; exact R_1_16
  have R_3_17 : σ17.2.2.2.1 (o + 3) = (FX5_init_t (fun _ => 0)).2 := by rw [e17]; exact R_3_16
  have R_22_17 : σ17.2.2.2.1 (o + 22) = (FX4_empty (fun _ => 0) (fun _ => 0)).2.1 := by rw [e17]; exact R_22_16
  have R_35_17 : σ17.2.2.2.1 (o + 35) = (FX4_empty (fun _ => 0) (fun _ => 0)).2.2 := by rw [e17]; exact R_35_16
  have R_36_17 : σ17.2.2.2.1 (o + 36) = (FX4_empty (fun _ => 0) (fun _ => 0)).2.1 := by rw [e17]; exact R_36_16
  have R_49_17 : σ17.2.2.2.1 (o + 49) = (FX4_empty (fun _ => 0) (fun _ => 0)).2.2 := by rw [e17]; exact R_49_16
  have R_54_17 : σ17.2.2.2.1 (o + 54) = upd (fun _ => 0) 0 0 := by rw [e17]; exact R_54_16
  have R_65_17 : σ17.2.2.2.1 (o + 65) = upd (fun _ => 0) 0 1 := by rw [e17]; exact R_65_16
  have R_61_17 : σ17.2.2.2.1 (o + 61) = fun _ => 0 := by rw [e17]; exact R_61_16
  have R_72_17 : σ17.2.2.2.1 (o + 72) = fun _ => 0 := by rw [e17]; exact R_72_16
  have R_80_17 : σ17.2.2.2.1 (o + 80) = upd (fun _ => 0) 0 0 := by rw [e17]; exact R_80_16
  have R_91_17 : σ17.2.2.2.1 (o + 91) = upd (fun _ => 0) 0 1 := by rw [e17]; exact R_91_16
  have R_87_17 : σ17.2.2.2.1 (o + 87) = fun _ => 0 := by rw [e17]; exact R_87_16
  have R_98_17 : σ17.2.2.2.1 (o + 98) = fun _ => 0 := by rw [e17]; exact R_98_16
  have G_0_6_17 : σ17.2.2.1 o 6 = some (o + 76) := by rw [e17]; exact g_prS
  clear K_0_16 K_1_16 K_2_16 K_22_16 K_36_16 K_50_16 K_76_16 G_0_0_16 G_0_2_16 G_0_3_16 G_0_4_16 G_0_5_16 S_0_16 S_1_16 S_2_16 S_3_16 S_4_16 R_0_16 R_1_16 R_3_16 R_22_16 R_35_16 R_36_16 R_49_16 R_54_16 R_65_16 R_61_16 R_72_16 R_80_16 R_91_16 R_87_16 R_98_16 N_16 T_16 O_16 X_16 e17 σ16
  show RC _ _ _ [some (.ref o)] [] σ17 _
  refine c_aload rfl ?_
  refine c_new (k := 1) (mOut_lt (ltL [o] rfl (List.forall_mem_cons.mpr ⟨by omega, (fun _ h => absurd h List.not_mem_nil)⟩)) (ltS [o] rfl (List.forall_mem_cons.mpr ⟨by omega, (fun _ h => absurd h List.not_mem_nil)⟩))) O_17 ?_
  obtain ⟨σ18, e18⟩ : ∃ x, x = mNew σ17 1 0 (mFt.getD 1 []).length := ⟨_, rfl⟩
  rw [← e18, show σ17.2.1.length = o + 102 by omega]
  have N_18 : σ18.2.1.length = o + 103 := by rw [e18, len_new]; omega
  have T_18 : σ18.1 = σ.1 + 4324 := by rw [e18]; show σ17.1 + 3 = _; omega
  have O_18 : rOK σ18 := by rw [e18]; exact rOK_new O_17
  have X_18 : Ex σ σ18 o := by rw [e18]; exact X_17.new (by omega)
  have K_0_18 : σ18.2.1[o]? = some (9, 0) := by rw [e18]; exact k_new K_0_17
  have K_1_18 : σ18.2.1[o + 1]? = some (21, 700) := by rw [e18]; exact k_new K_1_17
  have K_2_18 : σ18.2.1[o + 2]? = some (5, 0) := by rw [e18]; exact k_new K_2_17
  have K_22_18 : σ18.2.1[o + 22]? = some (4, 0) := by rw [e18]; exact k_new K_22_17
  have K_36_18 : σ18.2.1[o + 36]? = some (4, 0) := by rw [e18]; exact k_new K_36_17
  have K_50_18 : σ18.2.1[o + 50]? = some (8, 0) := by rw [e18]; exact k_new K_50_17
  have K_76_18 : σ18.2.1[o + 76]? = some (8, 0) := by rw [e18]; exact k_new K_76_17
  have G_0_0_18 : σ18.2.2.1 o 0 = some (o + 1) := by rw [e18]; exact g_new (by omega) G_0_0_17
  have G_0_2_18 : σ18.2.2.1 o 2 = some (o + 2) := by rw [e18]; exact g_new (by omega) G_0_2_17
  have G_0_3_18 : σ18.2.2.1 o 3 = some (o + 22) := by rw [e18]; exact g_new (by omega) G_0_3_17
  have G_0_4_18 : σ18.2.2.1 o 4 = some (o + 36) := by rw [e18]; exact g_new (by omega) G_0_4_17
  have G_0_5_18 : σ18.2.2.1 o 5 = some (o + 50) := by rw [e18]; exact g_new (by omega) G_0_5_17
  have G_0_6_18 : σ18.2.2.1 o 6 = some (o + 76) := by rw [e18]; exact g_new (by omega) G_0_6_17
  have S_0_18 : isRd (mBo σ18) (o + 2) := by rw [e18]; exact isRd_ext S_0_17 (fun q x h => k_new h) (fun q h1 h2 => mup_ne (by omega))
  have S_1_18 : isPrg (mBo σ18) (o + 22) := by rw [e18]; exact isPrg_ext S_1_17 (fun q x h => k_new h) (fun q h1 h2 => mup_ne (by omega))
  have S_2_18 : isPrg (mBo σ18) (o + 36) := by rw [e18]; exact isPrg_ext S_2_17 (fun q x h => k_new h) (fun q h1 h2 => mup_ne (by omega))
  have S_3_18 : isWorld (mBo σ18) (o + 50) := by rw [e18]; exact isWorld_ext S_3_17 (fun q x h => k_new h) (fun q h1 h2 => mup_ne (by omega))
  have S_4_18 : isWorld (mBo σ18) (o + 76) := by rw [e18]; exact isWorld_ext S_4_17 (fun q x h => k_new h) (fun q h1 h2 => mup_ne (by omega))
  have R_0_18 : σ18.2.2.2.1 o = fun _ => 0 := by rw [e18]; exact (mup_ne (by omega)).trans R_0_17
  have R_1_18 : σ18.2.2.2.1 (o + 1) = fun _ => 0 := by rw [e18]; exact (mup_ne (by omega)).trans R_1_17
  have R_3_18 : σ18.2.2.2.1 (o + 3) = (FX5_init_t (fun _ => 0)).2 := by rw [e18]; exact (mup_ne (by omega)).trans R_3_17
  have R_22_18 : σ18.2.2.2.1 (o + 22) = (FX4_empty (fun _ => 0) (fun _ => 0)).2.1 := by rw [e18]; exact (mup_ne (by omega)).trans R_22_17
  have R_35_18 : σ18.2.2.2.1 (o + 35) = (FX4_empty (fun _ => 0) (fun _ => 0)).2.2 := by rw [e18]; exact (mup_ne (by omega)).trans R_35_17
  have R_36_18 : σ18.2.2.2.1 (o + 36) = (FX4_empty (fun _ => 0) (fun _ => 0)).2.1 := by rw [e18]; exact (mup_ne (by omega)).trans R_36_17
  have R_49_18 : σ18.2.2.2.1 (o + 49) = (FX4_empty (fun _ => 0) (fun _ => 0)).2.2 := by rw [e18]; exact (mup_ne (by omega)).trans R_49_17
  have R_54_18 : σ18.2.2.2.1 (o + 54) = upd (fun _ => 0) 0 0 := by rw [e18]; exact (mup_ne (by omega)).trans R_54_17
  have R_65_18 : σ18.2.2.2.1 (o + 65) = upd (fun _ => 0) 0 1 := by rw [e18]; exact (mup_ne (by omega)).trans R_65_17
  have R_61_18 : σ18.2.2.2.1 (o + 61) = fun _ => 0 := by rw [e18]; exact (mup_ne (by omega)).trans R_61_17
  have R_72_18 : σ18.2.2.2.1 (o + 72) = fun _ => 0 := by rw [e18]; exact (mup_ne (by omega)).trans R_72_17
  have R_80_18 : σ18.2.2.2.1 (o + 80) = upd (fun _ => 0) 0 0 := by rw [e18]; exact (mup_ne (by omega)).trans R_80_17
  have R_91_18 : σ18.2.2.2.1 (o + 91) = upd (fun _ => 0) 0 1 := by rw [e18]; exact (mup_ne (by omega)).trans R_91_17
  have R_87_18 : σ18.2.2.2.1 (o + 87) = fun _ => 0 := by rw [e18]; exact (mup_ne (by omega)).trans R_87_17
  have R_98_18 : σ18.2.2.2.1 (o + 98) = fun _ => 0 := by rw [e18]; exact (mup_ne (by omega)).trans R_98_17
  have K_102_18 : σ18.2.1[o + 102]? = some (1, 0) := by rw [e18, ← show σ17.2.1.length = o + 102 by omega]; exact k_newS
  have R_102_18 : σ18.2.2.2.1 (o + 102) = fun _ => 0 := by rw [e18, ← show σ17.2.1.length = o + 102 by omega]; exact mup_eq
  clear K_0_17 K_1_17 K_2_17 K_22_17 K_36_17 K_50_17 K_76_17 G_0_0_17 G_0_2_17 G_0_3_17 G_0_4_17 G_0_5_17 G_0_6_17 S_0_17 S_1_17 S_2_17 S_3_17 S_4_17 R_0_17 R_1_17 R_3_17 R_22_17 R_35_17 R_36_17 R_49_17 R_54_17 R_65_17 R_61_17 R_72_17 R_80_17 R_91_17 R_87_17 R_98_17 N_17 T_17 O_17 X_17 e18 σ17
  show RC _ _ _ [some (.ref o)] [.ref (o + 102), .ref o] σ18 _
  refine c_dup rfl ?_
  refine c_call (o := o + 102) (as := []) (st := [.ref (o + 102), .ref o]) (rfl) rfl (Nat.le_of_ble_eq_true rfl) (Or.inl rfl) (ltL [o] rfl (List.forall_mem_cons.mpr ⟨by omega, (fun _ h => absurd h List.not_mem_nil)⟩)) (ltS [o + 102, o] rfl (List.forall_mem_cons.mpr ⟨by omega, (List.forall_mem_cons.mpr ⟨by omega, (fun _ h => absurd h List.not_mem_nil)⟩)⟩)) (nY1_init (by omega) O_18 R_102_18 K_102_18 (by omega)) (fun σ19 Z_19 => ?_)
  obtain ⟨E_19, NN_19, TT_19, O_19, Y0_19, Y1_19, Y2_19, Y3_19, Y4_19, Y5_19, Y6_19, Y7_19, Y8_19, Y9_19, Y10_19, Y11_19, Y12_19, Y13_19, Y14_19, Y15_19, Y16_19, Y17_19⟩ := Z_19
  have N_19 : σ19.2.1.length = o + 312 := by omega
  have T_19 : σ19.1 = σ.1 + 9132 := by omega
  have X_19 : Ex σ σ19 o := X_18.call E_19 (by omega)
  have K_0_19 : σ19.2.1[o]? = some (9, 0) := E_19.1 _ _ K_0_18
  have K_1_19 : σ19.2.1[o + 1]? = some (21, 700) := E_19.1 _ _ K_1_18
  have K_2_19 : σ19.2.1[o + 2]? = some (5, 0) := E_19.1 _ _ K_2_18
  have K_22_19 : σ19.2.1[o + 22]? = some (4, 0) := E_19.1 _ _ K_22_18
  have K_36_19 : σ19.2.1[o + 36]? = some (4, 0) := E_19.1 _ _ K_36_18
  have K_50_19 : σ19.2.1[o + 50]? = some (8, 0) := E_19.1 _ _ K_50_18
  have K_76_19 : σ19.2.1[o + 76]? = some (8, 0) := E_19.1 _ _ K_76_18
  have K_102_19 : σ19.2.1[o + 102]? = some (1, 0) := E_19.1 _ _ K_102_18
  have G_0_0_19 : σ19.2.2.1 o 0 = some (o + 1) := by rw [(E_19.2 _ (by omega) (by omega)).1]; exact G_0_0_18
  have G_0_2_19 : σ19.2.2.1 o 2 = some (o + 2) := by rw [(E_19.2 _ (by omega) (by omega)).1]; exact G_0_2_18
  have G_0_3_19 : σ19.2.2.1 o 3 = some (o + 22) := by rw [(E_19.2 _ (by omega) (by omega)).1]; exact G_0_3_18
  have G_0_4_19 : σ19.2.2.1 o 4 = some (o + 36) := by rw [(E_19.2 _ (by omega) (by omega)).1]; exact G_0_4_18
  have G_0_5_19 : σ19.2.2.1 o 5 = some (o + 50) := by rw [(E_19.2 _ (by omega) (by omega)).1]; exact G_0_5_18
  have G_0_6_19 : σ19.2.2.1 o 6 = some (o + 76) := by rw [(E_19.2 _ (by omega) (by omega)).1]; exact G_0_6_18
  have S_0_19 : isRd (mBo σ19) (o + 2) := isRd_ext S_0_18 E_19.1 (fun q h1 h2 => (E_19.2 q (by omega) (by omega)).1)
  have S_1_19 : isPrg (mBo σ19) (o + 22) := isPrg_ext S_1_18 E_19.1 (fun q h1 h2 => (E_19.2 q (by omega) (by omega)).1)
  have S_2_19 : isPrg (mBo σ19) (o + 36) := isPrg_ext S_2_18 E_19.1 (fun q h1 h2 => (E_19.2 q (by omega) (by omega)).1)
  have S_3_19 : isWorld (mBo σ19) (o + 50) := isWorld_ext S_3_18 E_19.1 (fun q h1 h2 => (E_19.2 q (by omega) (by omega)).1)
  have S_4_19 : isWorld (mBo σ19) (o + 76) := isWorld_ext S_4_18 E_19.1 (fun q h1 h2 => (E_19.2 q (by omega) (by omega)).1)
  have R_0_19 : σ19.2.2.2.1 o = fun _ => 0 := by rw [(E_19.2 _ (by omega) (by omega)).2.1]; exact R_0_18
  have R_1_19 : σ19.2.2.2.1 (o + 1) = fun _ => 0 := by rw [(E_19.2 _ (by omega) (by omega)).2.1]; exact R_1_18
  have R_3_19 : σ19.2.2.2.1 (o + 3) = (FX5_init_t (fun _ => 0)).2 := by rw [(E_19.2 _ (by omega) (by omega)).2.1]; exact R_3_18
  have R_22_19 : σ19.2.2.2.1 (o + 22) = (FX4_empty (fun _ => 0) (fun _ => 0)).2.1 := by rw [(E_19.2 _ (by omega) (by omega)).2.1]; exact R_22_18
  have R_35_19 : σ19.2.2.2.1 (o + 35) = (FX4_empty (fun _ => 0) (fun _ => 0)).2.2 := by rw [(E_19.2 _ (by omega) (by omega)).2.1]; exact R_35_18
  have R_36_19 : σ19.2.2.2.1 (o + 36) = (FX4_empty (fun _ => 0) (fun _ => 0)).2.1 := by rw [(E_19.2 _ (by omega) (by omega)).2.1]; exact R_36_18
  have R_49_19 : σ19.2.2.2.1 (o + 49) = (FX4_empty (fun _ => 0) (fun _ => 0)).2.2 := by rw [(E_19.2 _ (by omega) (by omega)).2.1]; exact R_49_18
  have R_54_19 : σ19.2.2.2.1 (o + 54) = upd (fun _ => 0) 0 0 := by rw [(E_19.2 _ (by omega) (by omega)).2.1]; exact R_54_18
  have R_65_19 : σ19.2.2.2.1 (o + 65) = upd (fun _ => 0) 0 1 := by rw [(E_19.2 _ (by omega) (by omega)).2.1]; exact R_65_18
  have R_61_19 : σ19.2.2.2.1 (o + 61) = fun _ => 0 := by rw [(E_19.2 _ (by omega) (by omega)).2.1]; exact R_61_18
  have R_72_19 : σ19.2.2.2.1 (o + 72) = fun _ => 0 := by rw [(E_19.2 _ (by omega) (by omega)).2.1]; exact R_72_18
  have R_80_19 : σ19.2.2.2.1 (o + 80) = upd (fun _ => 0) 0 0 := by rw [(E_19.2 _ (by omega) (by omega)).2.1]; exact R_80_18
  have R_91_19 : σ19.2.2.2.1 (o + 91) = upd (fun _ => 0) 0 1 := by rw [(E_19.2 _ (by omega) (by omega)).2.1]; exact R_91_18
  have R_87_19 : σ19.2.2.2.1 (o + 87) = fun _ => 0 := by rw [(E_19.2 _ (by omega) (by omega)).2.1]; exact R_87_18
  have R_98_19 : σ19.2.2.2.1 (o + 98) = fun _ => 0 := by rw [(E_19.2 _ (by omega) (by omega)).2.1]; exact R_98_18
  have S_5_19 : isHi (mBo σ19) (o + 102) := Y0_19
  have R_102_19 : σ19.2.2.2.1 (o + 102) = fun _ => 0 := Y1_19
  have R_108_19 : σ19.2.2.2.1 (o + 108) = upd (fun _ => 0) 0 0 := Y2_19
  have R_119_19 : σ19.2.2.2.1 (o + 119) = upd (fun _ => 0) 0 1 := Y3_19
  have R_134_19 : σ19.2.2.2.1 (o + 134) = upd (fun _ => 0) 0 0 := Y4_19
  have R_145_19 : σ19.2.2.2.1 (o + 145) = upd (fun _ => 0) 0 1 := Y5_19
  have R_160_19 : σ19.2.2.2.1 (o + 160) = upd (fun _ => 0) 0 0 := Y6_19
  have R_171_19 : σ19.2.2.2.1 (o + 171) = upd (fun _ => 0) 0 1 := Y7_19
  have R_186_19 : σ19.2.2.2.1 (o + 186) = upd (fun _ => 0) 0 0 := Y8_19
  have R_197_19 : σ19.2.2.2.1 (o + 197) = upd (fun _ => 0) 0 1 := Y9_19
  have R_212_19 : σ19.2.2.2.1 (o + 212) = upd (fun _ => 0) 0 0 := Y10_19
  have R_223_19 : σ19.2.2.2.1 (o + 223) = upd (fun _ => 0) 0 1 := Y11_19
  have R_238_19 : σ19.2.2.2.1 (o + 238) = upd (fun _ => 0) 0 0 := Y12_19
  have R_249_19 : σ19.2.2.2.1 (o + 249) = upd (fun _ => 0) 0 1 := Y13_19
  have R_264_19 : σ19.2.2.2.1 (o + 264) = upd (fun _ => 0) 0 0 := Y14_19
  have R_275_19 : σ19.2.2.2.1 (o + 275) = upd (fun _ => 0) 0 1 := Y15_19
  have R_290_19 : σ19.2.2.2.1 (o + 290) = upd (fun _ => 0) 0 0 := Y16_19
  have R_301_19 : σ19.2.2.2.1 (o + 301) = upd (fun _ => 0) 0 1 := Y17_19
  clear K_0_18 K_1_18 K_2_18 K_22_18 K_36_18 K_50_18 K_76_18 K_102_18 G_0_0_18 G_0_2_18 G_0_3_18 G_0_4_18 G_0_5_18 G_0_6_18 S_0_18 S_1_18 S_2_18 S_3_18 S_4_18 R_0_18 R_1_18 R_3_18 R_22_18 R_35_18 R_36_18 R_49_18 R_54_18 R_65_18 R_61_18 R_72_18 R_80_18 R_91_18 R_87_18 R_98_18 R_102_18 N_18 T_18 O_18 X_18 E_19 NN_19 TT_19 Y0_19 Y1_19 Y2_19 Y3_19 Y4_19 Y5_19 Y6_19 Y7_19 Y8_19 Y9_19 Y10_19 Y11_19 Y12_19 Y13_19 Y14_19 Y15_19 Y16_19 Y17_19 σ18
  show RC _ _ _ [some (.ref o)] [.ref (o + 102), .ref o] σ19 _
  refine c_putr K_0_19 ?_
  obtain ⟨σ20, e20⟩ : ∃ x, x = mPr σ19 o 7 (some (o + 102)) := ⟨_, rfl⟩
  rw [← e20]
  have N_20 : σ20.2.1.length = o + 312 := by rw [e20]; exact N_19
  have T_20 : σ20.1 = σ.1 + 9132 := by rw [e20]; exact T_19
  have O_20 : rOK σ20 := by rw [e20]; exact rOK_pr O_19 (by omega)
  have X_20 : Ex σ σ20 o := by rw [e20]; exact X_19.pr (by omega)
  have K_0_20 : σ20.2.1[o]? = some (9, 0) := by rw [e20]; exact K_0_19
  have K_1_20 : σ20.2.1[o + 1]? = some (21, 700) := by rw [e20]; exact K_1_19
  have K_2_20 : σ20.2.1[o + 2]? = some (5, 0) := by rw [e20]; exact K_2_19
  have K_22_20 : σ20.2.1[o + 22]? = some (4, 0) := by rw [e20]; exact K_22_19
  have K_36_20 : σ20.2.1[o + 36]? = some (4, 0) := by rw [e20]; exact K_36_19
  have K_50_20 : σ20.2.1[o + 50]? = some (8, 0) := by rw [e20]; exact K_50_19
  have K_76_20 : σ20.2.1[o + 76]? = some (8, 0) := by rw [e20]; exact K_76_19
  have K_102_20 : σ20.2.1[o + 102]? = some (1, 0) := by rw [e20]; exact K_102_19
  have G_0_0_20 : σ20.2.2.1 o 0 = some (o + 1) := by rw [e20]; exact g_prK (by decide) G_0_0_19
  have G_0_2_20 : σ20.2.2.1 o 2 = some (o + 2) := by rw [e20]; exact g_prK (by decide) G_0_2_19
  have G_0_3_20 : σ20.2.2.1 o 3 = some (o + 22) := by rw [e20]; exact g_prK (by decide) G_0_3_19
  have G_0_4_20 : σ20.2.2.1 o 4 = some (o + 36) := by rw [e20]; exact g_prK (by decide) G_0_4_19
  have G_0_5_20 : σ20.2.2.1 o 5 = some (o + 50) := by rw [e20]; exact g_prK (by decide) G_0_5_19
  have G_0_6_20 : σ20.2.2.1 o 6 = some (o + 76) := by rw [e20]; exact g_prK (by decide) G_0_6_19
  have S_0_20 : isRd (mBo σ20) (o + 2) := by rw [e20]; exact isRd_ext S_0_19 (fun q x h => h) (fun q h1 h2 => mup_ne (by omega))
  have S_1_20 : isPrg (mBo σ20) (o + 22) := by rw [e20]; exact isPrg_ext S_1_19 (fun q x h => h) (fun q h1 h2 => mup_ne (by omega))
  have S_2_20 : isPrg (mBo σ20) (o + 36) := by rw [e20]; exact isPrg_ext S_2_19 (fun q x h => h) (fun q h1 h2 => mup_ne (by omega))
  have S_3_20 : isWorld (mBo σ20) (o + 50) := by rw [e20]; exact isWorld_ext S_3_19 (fun q x h => h) (fun q h1 h2 => mup_ne (by omega))
  have S_4_20 : isWorld (mBo σ20) (o + 76) := by rw [e20]; exact isWorld_ext S_4_19 (fun q x h => h) (fun q h1 h2 => mup_ne (by omega))
  have S_5_20 : isHi (mBo σ20) (o + 102) := by rw [e20]; exact isHi_ext S_5_19 (fun q x h => h) (fun q h1 h2 => mup_ne (by omega))
  have R_0_20 : σ20.2.2.2.1 o = fun _ => 0 := by rw [e20]; exact R_0_19
  have R_1_20 : σ20.2.2.2.1 (o + 1) = fun _ => 0 := by rw [e20]; exact R_1_19
  have R_3_20 : σ20.2.2.2.1 (o + 3) = (FX5_init_t (fun _ => 0)).2 := by rw [e20]; exact R_3_19
  have R_22_20 : σ20.2.2.2.1 (o + 22) = (FX4_empty (fun _ => 0) (fun _ => 0)).2.1 := by rw [e20]; exact R_22_19
  have R_35_20 : σ20.2.2.2.1 (o + 35) = (FX4_empty (fun _ => 0) (fun _ => 0)).2.2 := by rw [e20]; exact R_35_19
  have R_36_20 : σ20.2.2.2.1 (o + 36) = (FX4_empty (fun _ => 0) (fun _ => 0)).2.1 := by rw [e20]; exact R_36_19
  have R_49_20 : σ20.2.2.2.1 (o + 49) = (FX4_empty (fun _ => 0) (fun _ => 0)).2.2 := by rw [e20]; exact R_49_19
  have R_54_20 : σ20.2.2.2.1 (o + 54) = upd (fun _ => 0) 0 0 := by rw [e20]; exact R_54_19
  have R_65_20 : σ20.2.2.2.1 (o + 65) = upd (fun _ => 0) 0 1 := by rw [e20]; exact R_65_19
  have R_61_20 : σ20.2.2.2.1 (o + 61) = fun _ => 0 := by rw [e20]; exact R_61_19
  have R_72_20 : σ20.2.2.2.1 (o + 72) = fun _ => 0 := by rw [e20]; exact R_72_19
  have R_80_20 : σ20.2.2.2.1 (o + 80) = upd (fun _ => 0) 0 0 := by rw [e20]; exact R_80_19
  have R_91_20 : σ20.2.2.2.1 (o + 91) = upd (fun _ => 0) 0 1 := by rw [e20]; exact R_91_19
  have R_87_20 : σ20.2.2.2.1 (o + 87) = fun _ => 0 := by rw [e20]; exact R_87_19
  have R_98_20 : σ20.2.2.2.1 (o + 98) = fun _ => 0 := by rw [e20]; exact R_98_19
  have R_102_20 : σ20.2.2.2.1 (o + 102) = fun _ => 0 := by rw [e20]; exact R_102_19
  have R_108_20 : σ20.2.2.2.1 (o + 108) = upd (fun _ => 0) 0 0 := by rw [e20]; exact R_108_19
  have R_119_20 : σ20.2.2.2.1 (o + 119) = upd (fun _ => 0) 0 1 := by rw [e20]; exact R_119_19
  have R_134_20 : σ20.2.2.2.1 (o + 134) = upd (fun _ => 0) 0 0 := by rw [e20]; exact R_134_19
  have R_145_20 : σ20.2.2.2.1 (o + 145) = upd (fun _ => 0) 0 1 := by rw [e20]; exact R_145_19
  have R_160_20 : σ20.2.2.2.1 (o + 160) = upd (fun _ => 0) 0 0 := by rw [e20]; exact R_160_19
  have R_171_20 : σ20.2.2.2.1 (o + 171) = upd (fun _ => 0) 0 1 := by rw [e20]; exact R_171_19
  have R_186_20 : σ20.2.2.2.1 (o + 186) = upd (fun _ => 0) 0 0 := by rw [e20]; exact R_186_19
  have R_197_20 : σ20.2.2.2.1 (o + 197) = upd (fun _ => 0) 0 1 := by rw [e20]; exact R_197_19
  have R_212_20 : σ20.2.2.2.1 (o + 212) = upd (fun _ => 0) 0 0 := by rw [e20]; exact R_212_19
  have R_223_20 : σ20.2.2.2.1 (o + 223) = upd (fun _ => 0) 0 1 := by rw [e20]; exact R_223_19
  have R_238_20 : σ20.2.2.2.1 (o + 238) = upd (fun _ => 0) 0 0 := by rw [e20]; exact R_238_19
  have R_249_20 : σ20.2.2.2.1 (o + 249) = upd (fun _ => 0) 0 1 := by rw [e20]; exact R_249_19
  have R_264_20 : σ20.2.2.2.1 (o + 264) = upd (fun _ => 0) 0 0 := by rw [e20]; exact R_264_19
  have R_275_20 : σ20.2.2.2.1 (o + 275) = upd (fun _ => 0) 0 1 := by rw [e20]; exact R_275_19
  have R_290_20 : σ20.2.2.2.1 (o + 290) = upd (fun _ => 0) 0 0 := by rw [e20]; exact R_290_19
  have R_301_20 : σ20.2.2.2.1 (o + 301) = upd (fun _ => 0) 0 1 := by rw [e20]; exact R_301_19
  have G_0_7_20 : σ20.2.2.1 o 7 = some (o + 102) := by rw [e20]; exact g_prS
  clear K_0_19 K_1_19 K_2_19 K_22_19 K_36_19 K_50_19 K_76_19 K_102_19 G_0_0_19 G_0_2_19 G_0_3_19 G_0_4_19 G_0_5_19 G_0_6_19 S_0_19 S_1_19 S_2_19 S_3_19 S_4_19 S_5_19 R_0_19 R_1_19 R_3_19 R_22_19 R_35_19 R_36_19 R_49_19 R_54_19 R_65_19 R_61_19 R_72_19 R_80_19 R_91_19 R_87_19 R_98_19 R_102_19 R_108_19 R_119_19 R_134_19 R_145_19 R_160_19 R_171_19 R_186_19 R_197_19 R_212_19 R_223_19 R_238_19 R_249_19 R_264_19 R_275_19 R_290_19 R_301_19 N_19 T_19 O_19 X_19 e20 σ19
  show RC _ _ _ [some (.ref o)] [] σ20 _
  refine c_aload rfl ?_
  refine c_int ?_
  refine c_newr (t := 6) (z := 2) (by decide) (by decide) (mOut_lt (ltL [o] rfl (List.forall_mem_cons.mpr ⟨by omega, (fun _ h => absurd h List.not_mem_nil)⟩)) (ltS [o] rfl (List.forall_mem_cons.mpr ⟨by omega, (fun _ h => absurd h List.not_mem_nil)⟩))) O_20 ?_
  rw [show ((2 : Int32)).toNatClampNeg = 2 by decide]
  obtain ⟨σ21, e21⟩ : ∃ x, x = mNew σ20 26 2 2 := ⟨_, rfl⟩
  rw [← e21, show σ20.2.1.length = o + 312 by omega]
  have N_21 : σ21.2.1.length = o + 313 := by rw [e21, len_new]; omega
  have T_21 : σ21.1 = σ.1 + 9134 := by rw [e21]; show σ20.1 + 2 = _; omega
  have O_21 : rOK σ21 := by rw [e21]; exact rOK_new O_20
  have X_21 : Ex σ σ21 o := by rw [e21]; exact X_20.new (by omega)
  have K_0_21 : σ21.2.1[o]? = some (9, 0) := by rw [e21]; exact k_new K_0_20
  have K_1_21 : σ21.2.1[o + 1]? = some (21, 700) := by rw [e21]; exact k_new K_1_20
  have K_2_21 : σ21.2.1[o + 2]? = some (5, 0) := by rw [e21]; exact k_new K_2_20
  have K_22_21 : σ21.2.1[o + 22]? = some (4, 0) := by rw [e21]; exact k_new K_22_20
  have K_36_21 : σ21.2.1[o + 36]? = some (4, 0) := by rw [e21]; exact k_new K_36_20
  have K_50_21 : σ21.2.1[o + 50]? = some (8, 0) := by rw [e21]; exact k_new K_50_20
  have K_76_21 : σ21.2.1[o + 76]? = some (8, 0) := by rw [e21]; exact k_new K_76_20
  have K_102_21 : σ21.2.1[o + 102]? = some (1, 0) := by rw [e21]; exact k_new K_102_20
  have G_0_0_21 : σ21.2.2.1 o 0 = some (o + 1) := by rw [e21]; exact g_new (by omega) G_0_0_20
  have G_0_2_21 : σ21.2.2.1 o 2 = some (o + 2) := by rw [e21]; exact g_new (by omega) G_0_2_20
  have G_0_3_21 : σ21.2.2.1 o 3 = some (o + 22) := by rw [e21]; exact g_new (by omega) G_0_3_20
  have G_0_4_21 : σ21.2.2.1 o 4 = some (o + 36) := by rw [e21]; exact g_new (by omega) G_0_4_20
  have G_0_5_21 : σ21.2.2.1 o 5 = some (o + 50) := by rw [e21]; exact g_new (by omega) G_0_5_20
  have G_0_6_21 : σ21.2.2.1 o 6 = some (o + 76) := by rw [e21]; exact g_new (by omega) G_0_6_20
  have G_0_7_21 : σ21.2.2.1 o 7 = some (o + 102) := by rw [e21]; exact g_new (by omega) G_0_7_20
  have S_0_21 : isRd (mBo σ21) (o + 2) := by rw [e21]; exact isRd_ext S_0_20 (fun q x h => k_new h) (fun q h1 h2 => mup_ne (by omega))
  have S_1_21 : isPrg (mBo σ21) (o + 22) := by rw [e21]; exact isPrg_ext S_1_20 (fun q x h => k_new h) (fun q h1 h2 => mup_ne (by omega))
  have S_2_21 : isPrg (mBo σ21) (o + 36) := by rw [e21]; exact isPrg_ext S_2_20 (fun q x h => k_new h) (fun q h1 h2 => mup_ne (by omega))
  have S_3_21 : isWorld (mBo σ21) (o + 50) := by rw [e21]; exact isWorld_ext S_3_20 (fun q x h => k_new h) (fun q h1 h2 => mup_ne (by omega))
  have S_4_21 : isWorld (mBo σ21) (o + 76) := by rw [e21]; exact isWorld_ext S_4_20 (fun q x h => k_new h) (fun q h1 h2 => mup_ne (by omega))
  have S_5_21 : isHi (mBo σ21) (o + 102) := by rw [e21]; exact isHi_ext S_5_20 (fun q x h => k_new h) (fun q h1 h2 => mup_ne (by omega))
  have R_0_21 : σ21.2.2.2.1 o = fun _ => 0 := by rw [e21]; exact (mup_ne (by omega)).trans R_0_20
  have R_1_21 : σ21.2.2.2.1 (o + 1) = fun _ => 0 := by rw [e21]; exact (mup_ne (by omega)).trans R_1_20
  have R_3_21 : σ21.2.2.2.1 (o + 3) = (FX5_init_t (fun _ => 0)).2 := by rw [e21]; exact (mup_ne (by omega)).trans R_3_20
  have R_22_21 : σ21.2.2.2.1 (o + 22) = (FX4_empty (fun _ => 0) (fun _ => 0)).2.1 := by rw [e21]; exact (mup_ne (by omega)).trans R_22_20
  have R_35_21 : σ21.2.2.2.1 (o + 35) = (FX4_empty (fun _ => 0) (fun _ => 0)).2.2 := by rw [e21]; exact (mup_ne (by omega)).trans R_35_20
  have R_36_21 : σ21.2.2.2.1 (o + 36) = (FX4_empty (fun _ => 0) (fun _ => 0)).2.1 := by rw [e21]; exact (mup_ne (by omega)).trans R_36_20
  have R_49_21 : σ21.2.2.2.1 (o + 49) = (FX4_empty (fun _ => 0) (fun _ => 0)).2.2 := by rw [e21]; exact (mup_ne (by omega)).trans R_49_20
  have R_54_21 : σ21.2.2.2.1 (o + 54) = upd (fun _ => 0) 0 0 := by rw [e21]; exact (mup_ne (by omega)).trans R_54_20
  have R_65_21 : σ21.2.2.2.1 (o + 65) = upd (fun _ => 0) 0 1 := by rw [e21]; exact (mup_ne (by omega)).trans R_65_20
  have R_61_21 : σ21.2.2.2.1 (o + 61) = fun _ => 0 := by rw [e21]; exact (mup_ne (by omega)).trans R_61_20
  have R_72_21 : σ21.2.2.2.1 (o + 72) = fun _ => 0 := by rw [e21]; exact (mup_ne (by omega)).trans R_72_20
  have R_80_21 : σ21.2.2.2.1 (o + 80) = upd (fun _ => 0) 0 0 := by rw [e21]; exact (mup_ne (by omega)).trans R_80_20
  have R_91_21 : σ21.2.2.2.1 (o + 91) = upd (fun _ => 0) 0 1 := by rw [e21]; exact (mup_ne (by omega)).trans R_91_20
  have R_87_21 : σ21.2.2.2.1 (o + 87) = fun _ => 0 := by rw [e21]; exact (mup_ne (by omega)).trans R_87_20
  have R_98_21 : σ21.2.2.2.1 (o + 98) = fun _ => 0 := by rw [e21]; exact (mup_ne (by omega)).trans R_98_20
  have R_102_21 : σ21.2.2.2.1 (o + 102) = fun _ => 0 := by rw [e21]; exact (mup_ne (by omega)).trans R_102_20
  have R_108_21 : σ21.2.2.2.1 (o + 108) = upd (fun _ => 0) 0 0 := by rw [e21]; exact (mup_ne (by omega)).trans R_108_20
  have R_119_21 : σ21.2.2.2.1 (o + 119) = upd (fun _ => 0) 0 1 := by rw [e21]; exact (mup_ne (by omega)).trans R_119_20
  have R_134_21 : σ21.2.2.2.1 (o + 134) = upd (fun _ => 0) 0 0 := by rw [e21]; exact (mup_ne (by omega)).trans R_134_20
  have R_145_21 : σ21.2.2.2.1 (o + 145) = upd (fun _ => 0) 0 1 := by rw [e21]; exact (mup_ne (by omega)).trans R_145_20
  have R_160_21 : σ21.2.2.2.1 (o + 160) = upd (fun _ => 0) 0 0 := by rw [e21]; exact (mup_ne (by omega)).trans R_160_20
  have R_171_21 : σ21.2.2.2.1 (o + 171) = upd (fun _ => 0) 0 1 := by rw [e21]; exact (mup_ne (by omega)).trans R_171_20
  have R_186_21 : σ21.2.2.2.1 (o + 186) = upd (fun _ => 0) 0 0 := by rw [e21]; exact (mup_ne (by omega)).trans R_186_20
  have R_197_21 : σ21.2.2.2.1 (o + 197) = upd (fun _ => 0) 0 1 := by rw [e21]; exact (mup_ne (by omega)).trans R_197_20
  have R_212_21 : σ21.2.2.2.1 (o + 212) = upd (fun _ => 0) 0 0 := by rw [e21]; exact (mup_ne (by omega)).trans R_212_20
  have R_223_21 : σ21.2.2.2.1 (o + 223) = upd (fun _ => 0) 0 1 := by rw [e21]; exact (mup_ne (by omega)).trans R_223_20
  have R_238_21 : σ21.2.2.2.1 (o + 238) = upd (fun _ => 0) 0 0 := by rw [e21]; exact (mup_ne (by omega)).trans R_238_20
  have R_249_21 : σ21.2.2.2.1 (o + 249) = upd (fun _ => 0) 0 1 := by rw [e21]; exact (mup_ne (by omega)).trans R_249_20
  have R_264_21 : σ21.2.2.2.1 (o + 264) = upd (fun _ => 0) 0 0 := by rw [e21]; exact (mup_ne (by omega)).trans R_264_20
  have R_275_21 : σ21.2.2.2.1 (o + 275) = upd (fun _ => 0) 0 1 := by rw [e21]; exact (mup_ne (by omega)).trans R_275_20
  have R_290_21 : σ21.2.2.2.1 (o + 290) = upd (fun _ => 0) 0 0 := by rw [e21]; exact (mup_ne (by omega)).trans R_290_20
  have R_301_21 : σ21.2.2.2.1 (o + 301) = upd (fun _ => 0) 0 1 := by rw [e21]; exact (mup_ne (by omega)).trans R_301_20
  have K_312_21 : σ21.2.1[o + 312]? = some (26, 2) := by rw [e21, ← show σ20.2.1.length = o + 312 by omega]; exact k_newS
  have R_312_21 : σ21.2.2.2.1 (o + 312) = fun _ => 0 := by rw [e21, ← show σ20.2.1.length = o + 312 by omega]; exact mup_eq
  clear K_0_20 K_1_20 K_2_20 K_22_20 K_36_20 K_50_20 K_76_20 K_102_20 G_0_0_20 G_0_2_20 G_0_3_20 G_0_4_20 G_0_5_20 G_0_6_20 G_0_7_20 S_0_20 S_1_20 S_2_20 S_3_20 S_4_20 S_5_20 R_0_20 R_1_20 R_3_20 R_22_20 R_35_20 R_36_20 R_49_20 R_54_20 R_65_20 R_61_20 R_72_20 R_80_20 R_91_20 R_87_20 R_98_20 R_102_20 R_108_20 R_119_20 R_134_20 R_145_20 R_160_20 R_171_20 R_186_20 R_197_20 R_212_20 R_223_20 R_238_20 R_249_20 R_264_20 R_275_20 R_290_20 R_301_20 N_20 T_20 O_20 X_20 e21 σ20
  show RC _ _ _ [some (.ref o)] [.ref (o + 312), .ref o] σ21 _
  refine c_dup rfl ?_
  refine c_int ?_
  refine c_new (k := 8) (mOut_lt (ltL [o] rfl (List.forall_mem_cons.mpr ⟨by omega, (fun _ h => absurd h List.not_mem_nil)⟩)) (ltS [o + 312, o + 312, o] rfl (List.forall_mem_cons.mpr ⟨by omega, (List.forall_mem_cons.mpr ⟨by omega, (List.forall_mem_cons.mpr ⟨by omega, (fun _ h => absurd h List.not_mem_nil)⟩)⟩)⟩))) O_21 ?_
  obtain ⟨σ22, e22⟩ : ∃ x, x = mNew σ21 8 0 (mFt.getD 8 []).length := ⟨_, rfl⟩
  rw [← e22, show σ21.2.1.length = o + 313 by omega]
  have N_22 : σ22.2.1.length = o + 314 := by rw [e22, len_new]; omega
  have T_22 : σ22.1 = σ.1 + 9137 := by rw [e22]; show σ21.1 + 3 = _; omega
  have O_22 : rOK σ22 := by rw [e22]; exact rOK_new O_21
  have X_22 : Ex σ σ22 o := by rw [e22]; exact X_21.new (by omega)
  have K_0_22 : σ22.2.1[o]? = some (9, 0) := by rw [e22]; exact k_new K_0_21
  have K_1_22 : σ22.2.1[o + 1]? = some (21, 700) := by rw [e22]; exact k_new K_1_21
  have K_2_22 : σ22.2.1[o + 2]? = some (5, 0) := by rw [e22]; exact k_new K_2_21
  have K_22_22 : σ22.2.1[o + 22]? = some (4, 0) := by rw [e22]; exact k_new K_22_21
  have K_36_22 : σ22.2.1[o + 36]? = some (4, 0) := by rw [e22]; exact k_new K_36_21
  have K_50_22 : σ22.2.1[o + 50]? = some (8, 0) := by rw [e22]; exact k_new K_50_21
  have K_76_22 : σ22.2.1[o + 76]? = some (8, 0) := by rw [e22]; exact k_new K_76_21
  have K_102_22 : σ22.2.1[o + 102]? = some (1, 0) := by rw [e22]; exact k_new K_102_21
  have K_312_22 : σ22.2.1[o + 312]? = some (26, 2) := by rw [e22]; exact k_new K_312_21
  have G_0_0_22 : σ22.2.2.1 o 0 = some (o + 1) := by rw [e22]; exact g_new (by omega) G_0_0_21
  have G_0_2_22 : σ22.2.2.1 o 2 = some (o + 2) := by rw [e22]; exact g_new (by omega) G_0_2_21
  have G_0_3_22 : σ22.2.2.1 o 3 = some (o + 22) := by rw [e22]; exact g_new (by omega) G_0_3_21
  have G_0_4_22 : σ22.2.2.1 o 4 = some (o + 36) := by rw [e22]; exact g_new (by omega) G_0_4_21
  have G_0_5_22 : σ22.2.2.1 o 5 = some (o + 50) := by rw [e22]; exact g_new (by omega) G_0_5_21
  have G_0_6_22 : σ22.2.2.1 o 6 = some (o + 76) := by rw [e22]; exact g_new (by omega) G_0_6_21
  have G_0_7_22 : σ22.2.2.1 o 7 = some (o + 102) := by rw [e22]; exact g_new (by omega) G_0_7_21
  have S_0_22 : isRd (mBo σ22) (o + 2) := by rw [e22]; exact isRd_ext S_0_21 (fun q x h => k_new h) (fun q h1 h2 => mup_ne (by omega))
  have S_1_22 : isPrg (mBo σ22) (o + 22) := by rw [e22]; exact isPrg_ext S_1_21 (fun q x h => k_new h) (fun q h1 h2 => mup_ne (by omega))
  have S_2_22 : isPrg (mBo σ22) (o + 36) := by rw [e22]; exact isPrg_ext S_2_21 (fun q x h => k_new h) (fun q h1 h2 => mup_ne (by omega))
  have S_3_22 : isWorld (mBo σ22) (o + 50) := by rw [e22]; exact isWorld_ext S_3_21 (fun q x h => k_new h) (fun q h1 h2 => mup_ne (by omega))
  have S_4_22 : isWorld (mBo σ22) (o + 76) := by rw [e22]; exact isWorld_ext S_4_21 (fun q x h => k_new h) (fun q h1 h2 => mup_ne (by omega))
  have S_5_22 : isHi (mBo σ22) (o + 102) := by rw [e22]; exact isHi_ext S_5_21 (fun q x h => k_new h) (fun q h1 h2 => mup_ne (by omega))
  have R_0_22 : σ22.2.2.2.1 o = fun _ => 0 := by rw [e22]; exact (mup_ne (by omega)).trans R_0_21
  have R_1_22 : σ22.2.2.2.1 (o + 1) = fun _ => 0 := by rw [e22]; exact (mup_ne (by omega)).trans R_1_21
  have R_3_22 : σ22.2.2.2.1 (o + 3) = (FX5_init_t (fun _ => 0)).2 := by rw [e22]; exact (mup_ne (by omega)).trans R_3_21
  have R_22_22 : σ22.2.2.2.1 (o + 22) = (FX4_empty (fun _ => 0) (fun _ => 0)).2.1 := by rw [e22]; exact (mup_ne (by omega)).trans R_22_21
  have R_35_22 : σ22.2.2.2.1 (o + 35) = (FX4_empty (fun _ => 0) (fun _ => 0)).2.2 := by rw [e22]; exact (mup_ne (by omega)).trans R_35_21
  have R_36_22 : σ22.2.2.2.1 (o + 36) = (FX4_empty (fun _ => 0) (fun _ => 0)).2.1 := by rw [e22]; exact (mup_ne (by omega)).trans R_36_21
  have R_49_22 : σ22.2.2.2.1 (o + 49) = (FX4_empty (fun _ => 0) (fun _ => 0)).2.2 := by rw [e22]; exact (mup_ne (by omega)).trans R_49_21
  have R_54_22 : σ22.2.2.2.1 (o + 54) = upd (fun _ => 0) 0 0 := by rw [e22]; exact (mup_ne (by omega)).trans R_54_21
  have R_65_22 : σ22.2.2.2.1 (o + 65) = upd (fun _ => 0) 0 1 := by rw [e22]; exact (mup_ne (by omega)).trans R_65_21
  have R_61_22 : σ22.2.2.2.1 (o + 61) = fun _ => 0 := by rw [e22]; exact (mup_ne (by omega)).trans R_61_21
  have R_72_22 : σ22.2.2.2.1 (o + 72) = fun _ => 0 := by rw [e22]; exact (mup_ne (by omega)).trans R_72_21
  have R_80_22 : σ22.2.2.2.1 (o + 80) = upd (fun _ => 0) 0 0 := by rw [e22]; exact (mup_ne (by omega)).trans R_80_21
  have R_91_22 : σ22.2.2.2.1 (o + 91) = upd (fun _ => 0) 0 1 := by rw [e22]; exact (mup_ne (by omega)).trans R_91_21
  have R_87_22 : σ22.2.2.2.1 (o + 87) = fun _ => 0 := by rw [e22]; exact (mup_ne (by omega)).trans R_87_21
  have R_98_22 : σ22.2.2.2.1 (o + 98) = fun _ => 0 := by rw [e22]; exact (mup_ne (by omega)).trans R_98_21
  have R_102_22 : σ22.2.2.2.1 (o + 102) = fun _ => 0 := by rw [e22]; exact (mup_ne (by omega)).trans R_102_21
  have R_108_22 : σ22.2.2.2.1 (o + 108) = upd (fun _ => 0) 0 0 := by rw [e22]; exact (mup_ne (by omega)).trans R_108_21
  have R_119_22 : σ22.2.2.2.1 (o + 119) = upd (fun _ => 0) 0 1 := by rw [e22]; exact (mup_ne (by omega)).trans R_119_21
  have R_134_22 : σ22.2.2.2.1 (o + 134) = upd (fun _ => 0) 0 0 := by rw [e22]; exact (mup_ne (by omega)).trans R_134_21
  have R_145_22 : σ22.2.2.2.1 (o + 145) = upd (fun _ => 0) 0 1 := by rw [e22]; exact (mup_ne (by omega)).trans R_145_21
  have R_160_22 : σ22.2.2.2.1 (o + 160) = upd (fun _ => 0) 0 0 := by rw [e22]; exact (mup_ne (by omega)).trans R_160_21
  have R_171_22 : σ22.2.2.2.1 (o + 171) = upd (fun _ => 0) 0 1 := by rw [e22]; exact (mup_ne (by omega)).trans R_171_21
  have R_186_22 : σ22.2.2.2.1 (o + 186) = upd (fun _ => 0) 0 0 := by rw [e22]; exact (mup_ne (by omega)).trans R_186_21
  have R_197_22 : σ22.2.2.2.1 (o + 197) = upd (fun _ => 0) 0 1 := by rw [e22]; exact (mup_ne (by omega)).trans R_197_21
  have R_212_22 : σ22.2.2.2.1 (o + 212) = upd (fun _ => 0) 0 0 := by rw [e22]; exact (mup_ne (by omega)).trans R_212_21
  have R_223_22 : σ22.2.2.2.1 (o + 223) = upd (fun _ => 0) 0 1 := by rw [e22]; exact (mup_ne (by omega)).trans R_223_21
  have R_238_22 : σ22.2.2.2.1 (o + 238) = upd (fun _ => 0) 0 0 := by rw [e22]; exact (mup_ne (by omega)).trans R_238_21
  have R_249_22 : σ22.2.2.2.1 (o + 249) = upd (fun _ => 0) 0 1 := by rw [e22]; exact (mup_ne (by omega)).trans R_249_21
  have R_264_22 : σ22.2.2.2.1 (o + 264) = upd (fun _ => 0) 0 0 := by rw [e22]; exact (mup_ne (by omega)).trans R_264_21
  have R_275_22 : σ22.2.2.2.1 (o + 275) = upd (fun _ => 0) 0 1 := by rw [e22]; exact (mup_ne (by omega)).trans R_275_21
  have R_290_22 : σ22.2.2.2.1 (o + 290) = upd (fun _ => 0) 0 0 := by rw [e22]; exact (mup_ne (by omega)).trans R_290_21
  have R_301_22 : σ22.2.2.2.1 (o + 301) = upd (fun _ => 0) 0 1 := by rw [e22]; exact (mup_ne (by omega)).trans R_301_21
  have R_312_22 : σ22.2.2.2.1 (o + 312) = fun _ => 0 := by rw [e22]; exact (mup_ne (by omega)).trans R_312_21
  have K_313_22 : σ22.2.1[o + 313]? = some (8, 0) := by rw [e22, ← show σ21.2.1.length = o + 313 by omega]; exact k_newS
  have R_313_22 : σ22.2.2.2.1 (o + 313) = fun _ => 0 := by rw [e22, ← show σ21.2.1.length = o + 313 by omega]; exact mup_eq
  clear K_0_21 K_1_21 K_2_21 K_22_21 K_36_21 K_50_21 K_76_21 K_102_21 K_312_21 G_0_0_21 G_0_2_21 G_0_3_21 G_0_4_21 G_0_5_21 G_0_6_21 G_0_7_21 S_0_21 S_1_21 S_2_21 S_3_21 S_4_21 S_5_21 R_0_21 R_1_21 R_3_21 R_22_21 R_35_21 R_36_21 R_49_21 R_54_21 R_65_21 R_61_21 R_72_21 R_80_21 R_91_21 R_87_21 R_98_21 R_102_21 R_108_21 R_119_21 R_134_21 R_145_21 R_160_21 R_171_21 R_186_21 R_197_21 R_212_21 R_223_21 R_238_21 R_249_21 R_264_21 R_275_21 R_290_21 R_301_21 R_312_21 N_21 T_21 O_21 X_21 e22 σ21
  show RC _ _ _ [some (.ref o)] [.ref (o + 313), .int 0, .ref (o + 312), .ref (o + 312), .ref o] σ22 _
  refine c_dup rfl ?_
  refine c_call (o := o + 313) (as := []) (st := [.ref (o + 313), .int 0, .ref (o + 312), .ref (o + 312), .ref o]) (rfl) rfl (Nat.le_of_ble_eq_true rfl) (Or.inr rfl) (ltL [o] rfl (List.forall_mem_cons.mpr ⟨by omega, (fun _ h => absurd h List.not_mem_nil)⟩)) (ltS [o + 313, o + 312, o + 312, o] rfl (List.forall_mem_cons.mpr ⟨by omega, (List.forall_mem_cons.mpr ⟨by omega, (List.forall_mem_cons.mpr ⟨by omega, (List.forall_mem_cons.mpr ⟨by omega, (fun _ h => absurd h List.not_mem_nil)⟩)⟩)⟩)⟩)) (nY8_init (by omega) O_22 R_313_22 K_313_22 (by omega)) (fun σ23 Z_23 => ?_)
  obtain ⟨E_23, NN_23, TT_23, O_23, Y0_23, Y1_23, Y2_23, Y3_23, Y4_23⟩ := Z_23
  have N_23 : σ23.2.1.length = o + 339 := by omega
  have T_23 : σ23.1 = σ.1 + 9734 := by omega
  have X_23 : Ex σ σ23 o := X_22.call E_23 (by omega)
  have K_0_23 : σ23.2.1[o]? = some (9, 0) := E_23.1 _ _ K_0_22
  have K_1_23 : σ23.2.1[o + 1]? = some (21, 700) := E_23.1 _ _ K_1_22
  have K_2_23 : σ23.2.1[o + 2]? = some (5, 0) := E_23.1 _ _ K_2_22
  have K_22_23 : σ23.2.1[o + 22]? = some (4, 0) := E_23.1 _ _ K_22_22
  have K_36_23 : σ23.2.1[o + 36]? = some (4, 0) := E_23.1 _ _ K_36_22
  have K_50_23 : σ23.2.1[o + 50]? = some (8, 0) := E_23.1 _ _ K_50_22
  have K_76_23 : σ23.2.1[o + 76]? = some (8, 0) := E_23.1 _ _ K_76_22
  have K_102_23 : σ23.2.1[o + 102]? = some (1, 0) := E_23.1 _ _ K_102_22
  have K_312_23 : σ23.2.1[o + 312]? = some (26, 2) := E_23.1 _ _ K_312_22
  have K_313_23 : σ23.2.1[o + 313]? = some (8, 0) := E_23.1 _ _ K_313_22
  have G_0_0_23 : σ23.2.2.1 o 0 = some (o + 1) := by rw [(E_23.2 _ (by omega) (by omega)).1]; exact G_0_0_22
  have G_0_2_23 : σ23.2.2.1 o 2 = some (o + 2) := by rw [(E_23.2 _ (by omega) (by omega)).1]; exact G_0_2_22
  have G_0_3_23 : σ23.2.2.1 o 3 = some (o + 22) := by rw [(E_23.2 _ (by omega) (by omega)).1]; exact G_0_3_22
  have G_0_4_23 : σ23.2.2.1 o 4 = some (o + 36) := by rw [(E_23.2 _ (by omega) (by omega)).1]; exact G_0_4_22
  have G_0_5_23 : σ23.2.2.1 o 5 = some (o + 50) := by rw [(E_23.2 _ (by omega) (by omega)).1]; exact G_0_5_22
  have G_0_6_23 : σ23.2.2.1 o 6 = some (o + 76) := by rw [(E_23.2 _ (by omega) (by omega)).1]; exact G_0_6_22
  have G_0_7_23 : σ23.2.2.1 o 7 = some (o + 102) := by rw [(E_23.2 _ (by omega) (by omega)).1]; exact G_0_7_22
  have S_0_23 : isRd (mBo σ23) (o + 2) := isRd_ext S_0_22 E_23.1 (fun q h1 h2 => (E_23.2 q (by omega) (by omega)).1)
  have S_1_23 : isPrg (mBo σ23) (o + 22) := isPrg_ext S_1_22 E_23.1 (fun q h1 h2 => (E_23.2 q (by omega) (by omega)).1)
  have S_2_23 : isPrg (mBo σ23) (o + 36) := isPrg_ext S_2_22 E_23.1 (fun q h1 h2 => (E_23.2 q (by omega) (by omega)).1)
  have S_3_23 : isWorld (mBo σ23) (o + 50) := isWorld_ext S_3_22 E_23.1 (fun q h1 h2 => (E_23.2 q (by omega) (by omega)).1)
  have S_4_23 : isWorld (mBo σ23) (o + 76) := isWorld_ext S_4_22 E_23.1 (fun q h1 h2 => (E_23.2 q (by omega) (by omega)).1)
  have S_5_23 : isHi (mBo σ23) (o + 102) := isHi_ext S_5_22 E_23.1 (fun q h1 h2 => (E_23.2 q (by omega) (by omega)).1)
  have R_0_23 : σ23.2.2.2.1 o = fun _ => 0 := by rw [(E_23.2 _ (by omega) (by omega)).2.1]; exact R_0_22
  have R_1_23 : σ23.2.2.2.1 (o + 1) = fun _ => 0 := by rw [(E_23.2 _ (by omega) (by omega)).2.1]; exact R_1_22
  have R_3_23 : σ23.2.2.2.1 (o + 3) = (FX5_init_t (fun _ => 0)).2 := by rw [(E_23.2 _ (by omega) (by omega)).2.1]; exact R_3_22
  have R_22_23 : σ23.2.2.2.1 (o + 22) = (FX4_empty (fun _ => 0) (fun _ => 0)).2.1 := by rw [(E_23.2 _ (by omega) (by omega)).2.1]; exact R_22_22
  have R_35_23 : σ23.2.2.2.1 (o + 35) = (FX4_empty (fun _ => 0) (fun _ => 0)).2.2 := by rw [(E_23.2 _ (by omega) (by omega)).2.1]; exact R_35_22
  have R_36_23 : σ23.2.2.2.1 (o + 36) = (FX4_empty (fun _ => 0) (fun _ => 0)).2.1 := by rw [(E_23.2 _ (by omega) (by omega)).2.1]; exact R_36_22
  have R_49_23 : σ23.2.2.2.1 (o + 49) = (FX4_empty (fun _ => 0) (fun _ => 0)).2.2 := by rw [(E_23.2 _ (by omega) (by omega)).2.1]; exact R_49_22
  have R_54_23 : σ23.2.2.2.1 (o + 54) = upd (fun _ => 0) 0 0 := by rw [(E_23.2 _ (by omega) (by omega)).2.1]; exact R_54_22
  have R_65_23 : σ23.2.2.2.1 (o + 65) = upd (fun _ => 0) 0 1 := by rw [(E_23.2 _ (by omega) (by omega)).2.1]; exact R_65_22
  have R_61_23 : σ23.2.2.2.1 (o + 61) = fun _ => 0 := by rw [(E_23.2 _ (by omega) (by omega)).2.1]; exact R_61_22
  have R_72_23 : σ23.2.2.2.1 (o + 72) = fun _ => 0 := by rw [(E_23.2 _ (by omega) (by omega)).2.1]; exact R_72_22
  have R_80_23 : σ23.2.2.2.1 (o + 80) = upd (fun _ => 0) 0 0 := by rw [(E_23.2 _ (by omega) (by omega)).2.1]; exact R_80_22
  have R_91_23 : σ23.2.2.2.1 (o + 91) = upd (fun _ => 0) 0 1 := by rw [(E_23.2 _ (by omega) (by omega)).2.1]; exact R_91_22
  have R_87_23 : σ23.2.2.2.1 (o + 87) = fun _ => 0 := by rw [(E_23.2 _ (by omega) (by omega)).2.1]; exact R_87_22
  have R_98_23 : σ23.2.2.2.1 (o + 98) = fun _ => 0 := by rw [(E_23.2 _ (by omega) (by omega)).2.1]; exact R_98_22
  have R_102_23 : σ23.2.2.2.1 (o + 102) = fun _ => 0 := by rw [(E_23.2 _ (by omega) (by omega)).2.1]; exact R_102_22
  have R_108_23 : σ23.2.2.2.1 (o + 108) = upd (fun _ => 0) 0 0 := by rw [(E_23.2 _ (by omega) (by omega)).2.1]; exact R_108_22
  have R_119_23 : σ23.2.2.2.1 (o + 119) = upd (fun _ => 0) 0 1 := by rw [(E_23.2 _ (by omega) (by omega)).2.1]; exact R_119_22
  have R_134_23 : σ23.2.2.2.1 (o + 134) = upd (fun _ => 0) 0 0 := by rw [(E_23.2 _ (by omega) (by omega)).2.1]; exact R_134_22
  have R_145_23 : σ23.2.2.2.1 (o + 145) = upd (fun _ => 0) 0 1 := by rw [(E_23.2 _ (by omega) (by omega)).2.1]; exact R_145_22
  have R_160_23 : σ23.2.2.2.1 (o + 160) = upd (fun _ => 0) 0 0 := by rw [(E_23.2 _ (by omega) (by omega)).2.1]; exact R_160_22
  have R_171_23 : σ23.2.2.2.1 (o + 171) = upd (fun _ => 0) 0 1 := by rw [(E_23.2 _ (by omega) (by omega)).2.1]; exact R_171_22
  have R_186_23 : σ23.2.2.2.1 (o + 186) = upd (fun _ => 0) 0 0 := by rw [(E_23.2 _ (by omega) (by omega)).2.1]; exact R_186_22
  have R_197_23 : σ23.2.2.2.1 (o + 197) = upd (fun _ => 0) 0 1 := by rw [(E_23.2 _ (by omega) (by omega)).2.1]; exact R_197_22
  have R_212_23 : σ23.2.2.2.1 (o + 212) = upd (fun _ => 0) 0 0 := by rw [(E_23.2 _ (by omega) (by omega)).2.1]; exact R_212_22
  have R_223_23 : σ23.2.2.2.1 (o + 223) = upd (fun _ => 0) 0 1 := by rw [(E_23.2 _ (by omega) (by omega)).2.1]; exact R_223_22
  have R_238_23 : σ23.2.2.2.1 (o + 238) = upd (fun _ => 0) 0 0 := by rw [(E_23.2 _ (by omega) (by omega)).2.1]; exact R_238_22
  have R_249_23 : σ23.2.2.2.1 (o + 249) = upd (fun _ => 0) 0 1 := by rw [(E_23.2 _ (by omega) (by omega)).2.1]; exact R_249_22
  have R_264_23 : σ23.2.2.2.1 (o + 264) = upd (fun _ => 0) 0 0 := by rw [(E_23.2 _ (by omega) (by omega)).2.1]; exact R_264_22
  have R_275_23 : σ23.2.2.2.1 (o + 275) = upd (fun _ => 0) 0 1 := by rw [(E_23.2 _ (by omega) (by omega)).2.1]; exact R_275_22
  have R_290_23 : σ23.2.2.2.1 (o + 290) = upd (fun _ => 0) 0 0 := by rw [(E_23.2 _ (by omega) (by omega)).2.1]; exact R_290_22
  have R_301_23 : σ23.2.2.2.1 (o + 301) = upd (fun _ => 0) 0 1 := by rw [(E_23.2 _ (by omega) (by omega)).2.1]; exact R_301_22
  have R_312_23 : σ23.2.2.2.1 (o + 312) = fun _ => 0 := by rw [(E_23.2 _ (by omega) (by omega)).2.1]; exact R_312_22
  have S_6_23 : isWorld (mBo σ23) (o + 313) := Y0_23
  have R_317_23 : σ23.2.2.2.1 (o + 317) = upd (fun _ => 0) 0 0 := Y1_23
  have R_328_23 : σ23.2.2.2.1 (o + 328) = upd (fun _ => 0) 0 1 := Y2_23
  have R_324_23 : σ23.2.2.2.1 (o + 324) = fun _ => 0 := Y3_23
  have R_335_23 : σ23.2.2.2.1 (o + 335) = fun _ => 0 := Y4_23
  clear K_0_22 K_1_22 K_2_22 K_22_22 K_36_22 K_50_22 K_76_22 K_102_22 K_312_22 K_313_22 G_0_0_22 G_0_2_22 G_0_3_22 G_0_4_22 G_0_5_22 G_0_6_22 G_0_7_22 S_0_22 S_1_22 S_2_22 S_3_22 S_4_22 S_5_22 R_0_22 R_1_22 R_3_22 R_22_22 R_35_22 R_36_22 R_49_22 R_54_22 R_65_22 R_61_22 R_72_22 R_80_22 R_91_22 R_87_22 R_98_22 R_102_22 R_108_22 R_119_22 R_134_22 R_145_22 R_160_22 R_171_22 R_186_22 R_197_22 R_212_22 R_223_22 R_238_22 R_249_22 R_264_22 R_275_22 R_290_22 R_301_22 R_312_22 R_313_22 N_22 T_22 O_22 X_22 E_23 NN_23 TT_23 Y0_23 Y1_23 Y2_23 Y3_23 Y4_23 σ22
  show RC _ _ _ [some (.ref o)] [.ref (o + 313), .int 0, .ref (o + 312), .ref (o + 312), .ref o] σ23 _
  refine c_ast K_312_23 (Or.inr (Or.inr rfl)) K_313_23 (lt_in 0 2 rfl rfl) ?_
  rw [show ((0 : Int32)).toNatClampNeg = 0 by decide]
  obtain ⟨σ24, e24⟩ : ∃ x, x = mPr σ23 (o + 312) 0 (some (o + 313)) := ⟨_, rfl⟩
  rw [← e24]
  have N_24 : σ24.2.1.length = o + 339 := by rw [e24]; exact N_23
  have T_24 : σ24.1 = σ.1 + 9734 := by rw [e24]; exact T_23
  have O_24 : rOK σ24 := by rw [e24]; exact rOK_pr O_23 (by omega)
  have X_24 : Ex σ σ24 o := by rw [e24]; exact X_23.pr (by omega)
  have K_0_24 : σ24.2.1[o]? = some (9, 0) := by rw [e24]; exact K_0_23
  have K_1_24 : σ24.2.1[o + 1]? = some (21, 700) := by rw [e24]; exact K_1_23
  have K_2_24 : σ24.2.1[o + 2]? = some (5, 0) := by rw [e24]; exact K_2_23
  have K_22_24 : σ24.2.1[o + 22]? = some (4, 0) := by rw [e24]; exact K_22_23
  have K_36_24 : σ24.2.1[o + 36]? = some (4, 0) := by rw [e24]; exact K_36_23
  have K_50_24 : σ24.2.1[o + 50]? = some (8, 0) := by rw [e24]; exact K_50_23
  have K_76_24 : σ24.2.1[o + 76]? = some (8, 0) := by rw [e24]; exact K_76_23
  have K_102_24 : σ24.2.1[o + 102]? = some (1, 0) := by rw [e24]; exact K_102_23
  have K_312_24 : σ24.2.1[o + 312]? = some (26, 2) := by rw [e24]; exact K_312_23
  have K_313_24 : σ24.2.1[o + 313]? = some (8, 0) := by rw [e24]; exact K_313_23
  have G_0_0_24 : σ24.2.2.1 o 0 = some (o + 1) := by rw [e24]; exact g_prO (by omega) G_0_0_23
  have G_0_2_24 : σ24.2.2.1 o 2 = some (o + 2) := by rw [e24]; exact g_prO (by omega) G_0_2_23
  have G_0_3_24 : σ24.2.2.1 o 3 = some (o + 22) := by rw [e24]; exact g_prO (by omega) G_0_3_23
  have G_0_4_24 : σ24.2.2.1 o 4 = some (o + 36) := by rw [e24]; exact g_prO (by omega) G_0_4_23
  have G_0_5_24 : σ24.2.2.1 o 5 = some (o + 50) := by rw [e24]; exact g_prO (by omega) G_0_5_23
  have G_0_6_24 : σ24.2.2.1 o 6 = some (o + 76) := by rw [e24]; exact g_prO (by omega) G_0_6_23
  have G_0_7_24 : σ24.2.2.1 o 7 = some (o + 102) := by rw [e24]; exact g_prO (by omega) G_0_7_23
  have S_0_24 : isRd (mBo σ24) (o + 2) := by rw [e24]; exact isRd_ext S_0_23 (fun q x h => h) (fun q h1 h2 => mup_ne (by omega))
  have S_1_24 : isPrg (mBo σ24) (o + 22) := by rw [e24]; exact isPrg_ext S_1_23 (fun q x h => h) (fun q h1 h2 => mup_ne (by omega))
  have S_2_24 : isPrg (mBo σ24) (o + 36) := by rw [e24]; exact isPrg_ext S_2_23 (fun q x h => h) (fun q h1 h2 => mup_ne (by omega))
  have S_3_24 : isWorld (mBo σ24) (o + 50) := by rw [e24]; exact isWorld_ext S_3_23 (fun q x h => h) (fun q h1 h2 => mup_ne (by omega))
  have S_4_24 : isWorld (mBo σ24) (o + 76) := by rw [e24]; exact isWorld_ext S_4_23 (fun q x h => h) (fun q h1 h2 => mup_ne (by omega))
  have S_5_24 : isHi (mBo σ24) (o + 102) := by rw [e24]; exact isHi_ext S_5_23 (fun q x h => h) (fun q h1 h2 => mup_ne (by omega))
  have S_6_24 : isWorld (mBo σ24) (o + 313) := by rw [e24]; exact isWorld_ext S_6_23 (fun q x h => h) (fun q h1 h2 => mup_ne (by omega))
  have R_0_24 : σ24.2.2.2.1 o = fun _ => 0 := by rw [e24]; exact R_0_23
  have R_1_24 : σ24.2.2.2.1 (o + 1) = fun _ => 0 := by rw [e24]; exact R_1_23
  have R_3_24 : σ24.2.2.2.1 (o + 3) = (FX5_init_t (fun _ => 0)).2 := by rw [e24]; exact R_3_23
  have R_22_24 : σ24.2.2.2.1 (o + 22) = (FX4_empty (fun _ => 0) (fun _ => 0)).2.1 := by rw [e24]; exact R_22_23
  have R_35_24 : σ24.2.2.2.1 (o + 35) = (FX4_empty (fun _ => 0) (fun _ => 0)).2.2 := by rw [e24]; exact R_35_23
  have R_36_24 : σ24.2.2.2.1 (o + 36) = (FX4_empty (fun _ => 0) (fun _ => 0)).2.1 := by rw [e24]; exact R_36_23
  have R_49_24 : σ24.2.2.2.1 (o + 49) = (FX4_empty (fun _ => 0) (fun _ => 0)).2.2 := by rw [e24]; exact R_49_23
  have R_54_24 : σ24.2.2.2.1 (o + 54) = upd (fun _ => 0) 0 0 := by rw [e24]; exact R_54_23
  have R_65_24 : σ24.2.2.2.1 (o + 65) = upd (fun _ => 0) 0 1 := by rw [e24]; exact R_65_23
  have R_61_24 : σ24.2.2.2.1 (o + 61) = fun _ => 0 := by rw [e24]; exact R_61_23
  have R_72_24 : σ24.2.2.2.1 (o + 72) = fun _ => 0 := by rw [e24]; exact R_72_23
  have R_80_24 : σ24.2.2.2.1 (o + 80) = upd (fun _ => 0) 0 0 := by rw [e24]; exact R_80_23
  have R_91_24 : σ24.2.2.2.1 (o + 91) = upd (fun _ => 0) 0 1 := by rw [e24]; exact R_91_23
  have R_87_24 : σ24.2.2.2.1 (o + 87) = fun _ => 0 := by rw [e24]; exact R_87_23
  have R_98_24 : σ24.2.2.2.1 (o + 98) = fun _ => 0 := by rw [e24]; exact R_98_23
  have R_102_24 : σ24.2.2.2.1 (o + 102) = fun _ => 0 := by rw [e24]; exact R_102_23
  have R_108_24 : σ24.2.2.2.1 (o + 108) = upd (fun _ => 0) 0 0 := by rw [e24]; exact R_108_23
  have R_119_24 : σ24.2.2.2.1 (o + 119) = upd (fun _ => 0) 0 1 := by rw [e24]; exact R_119_23
  have R_134_24 : σ24.2.2.2.1 (o + 134) = upd (fun _ => 0) 0 0 := by rw [e24]; exact R_134_23
  have R_145_24 : σ24.2.2.2.1 (o + 145) = upd (fun _ => 0) 0 1 := by rw [e24]; exact R_145_23
  have R_160_24 : σ24.2.2.2.1 (o + 160) = upd (fun _ => 0) 0 0 := by rw [e24]; exact R_160_23
  have R_171_24 : σ24.2.2.2.1 (o + 171) = upd (fun _ => 0) 0 1 := by rw [e24]; exact R_171_23
  have R_186_24 : σ24.2.2.2.1 (o + 186) = upd (fun _ => 0) 0 0 := by rw [e24]; exact R_186_23
  have R_197_24 : σ24.2.2.2.1 (o + 197) = upd (fun _ => 0) 0 1 := by rw [e24]; exact R_197_23
  have R_212_24 : σ24.2.2.2.1 (o + 212) = upd (fun _ => 0) 0 0 := by rw [e24]; exact R_212_23
  have R_223_24 : σ24.2.2.2.1 (o + 223) = upd (fun _ => 0) 0 1 := by rw [e24]; exact R_223_23
  have R_238_24 : σ24.2.2.2.1 (o + 238) = upd (fun _ => 0) 0 0 := by rw [e24]; exact R_238_23
  have R_249_24 : σ24.2.2.2.1 (o + 249) = upd (fun _ => 0) 0 1 := by rw [e24]; exact R_249_23
  have R_264_24 : σ24.2.2.2.1 (o + 264) = upd (fun _ => 0) 0 0 := by rw [e24]; exact R_264_23
  have R_275_24 : σ24.2.2.2.1 (o + 275) = upd (fun _ => 0) 0 1 := by rw [e24]; exact R_275_23
  have R_290_24 : σ24.2.2.2.1 (o + 290) = upd (fun _ => 0) 0 0 := by rw [e24]; exact R_290_23
  have R_301_24 : σ24.2.2.2.1 (o + 301) = upd (fun _ => 0) 0 1 := by rw [e24]; exact R_301_23
  have R_312_24 : σ24.2.2.2.1 (o + 312) = fun _ => 0 := by rw [e24]; exact R_312_23
  have R_317_24 : σ24.2.2.2.1 (o + 317) = upd (fun _ => 0) 0 0 := by rw [e24]; exact R_317_23
  have R_328_24 : σ24.2.2.2.1 (o + 328) = upd (fun _ => 0) 0 1 := by rw [e24]; exact R_328_23
  have R_324_24 : σ24.2.2.2.1 (o + 324) = fun _ => 0 := by rw [e24]; exact R_324_23
  have R_335_24 : σ24.2.2.2.1 (o + 335) = fun _ => 0 := by rw [e24]; exact R_335_23
  have G_312_0_24 : σ24.2.2.1 (o + 312) 0 = some (o + 313) := by rw [e24]; exact g_prS
  clear K_0_23 K_1_23 K_2_23 K_22_23 K_36_23 K_50_23 K_76_23 K_102_23 K_312_23 K_313_23 G_0_0_23 G_0_2_23 G_0_3_23 G_0_4_23 G_0_5_23 G_0_6_23 G_0_7_23 S_0_23 S_1_23 S_2_23 S_3_23 S_4_23 S_5_23 S_6_23 R_0_23 R_1_23 R_3_23 R_22_23 R_35_23 R_36_23 R_49_23 R_54_23 R_65_23 R_61_23 R_72_23 R_80_23 R_91_23 R_87_23 R_98_23 R_102_23 R_108_23 R_119_23 R_134_23 R_145_23 R_160_23 R_171_23 R_186_23 R_197_23 R_212_23 R_223_23 R_238_23 R_249_23 R_264_23 R_275_23 R_290_23 R_301_23 R_312_23 R_317_23 R_328_23 R_324_23 R_335_23 N_23 T_23 O_23 X_23 e24 σ23
  show RC _ _ _ [some (.ref o)] [.ref (o + 312), .ref o] σ24 _
  refine c_dup rfl ?_
  refine c_int ?_
  refine c_new (k := 8) (mOut_lt (ltL [o] rfl (List.forall_mem_cons.mpr ⟨by omega, (fun _ h => absurd h List.not_mem_nil)⟩)) (ltS [o + 312, o + 312, o] rfl (List.forall_mem_cons.mpr ⟨by omega, (List.forall_mem_cons.mpr ⟨by omega, (List.forall_mem_cons.mpr ⟨by omega, (fun _ h => absurd h List.not_mem_nil)⟩)⟩)⟩))) O_24 ?_
  obtain ⟨σ25, e25⟩ : ∃ x, x = mNew σ24 8 0 (mFt.getD 8 []).length := ⟨_, rfl⟩
  rw [← e25, show σ24.2.1.length = o + 339 by omega]
  have N_25 : σ25.2.1.length = o + 340 := by rw [e25, len_new]; omega
  have T_25 : σ25.1 = σ.1 + 9737 := by rw [e25]; show σ24.1 + 3 = _; omega
  have O_25 : rOK σ25 := by rw [e25]; exact rOK_new O_24
  have X_25 : Ex σ σ25 o := by rw [e25]; exact X_24.new (by omega)
  have K_0_25 : σ25.2.1[o]? = some (9, 0) := by rw [e25]; exact k_new K_0_24
  have K_1_25 : σ25.2.1[o + 1]? = some (21, 700) := by rw [e25]; exact k_new K_1_24
  have K_2_25 : σ25.2.1[o + 2]? = some (5, 0) := by rw [e25]; exact k_new K_2_24
  have K_22_25 : σ25.2.1[o + 22]? = some (4, 0) := by rw [e25]; exact k_new K_22_24
  have K_36_25 : σ25.2.1[o + 36]? = some (4, 0) := by rw [e25]; exact k_new K_36_24
  have K_50_25 : σ25.2.1[o + 50]? = some (8, 0) := by rw [e25]; exact k_new K_50_24
  have K_76_25 : σ25.2.1[o + 76]? = some (8, 0) := by rw [e25]; exact k_new K_76_24
  have K_102_25 : σ25.2.1[o + 102]? = some (1, 0) := by rw [e25]; exact k_new K_102_24
  have K_312_25 : σ25.2.1[o + 312]? = some (26, 2) := by rw [e25]; exact k_new K_312_24
  have K_313_25 : σ25.2.1[o + 313]? = some (8, 0) := by rw [e25]; exact k_new K_313_24
  have G_0_0_25 : σ25.2.2.1 o 0 = some (o + 1) := by rw [e25]; exact g_new (by omega) G_0_0_24
  have G_0_2_25 : σ25.2.2.1 o 2 = some (o + 2) := by rw [e25]; exact g_new (by omega) G_0_2_24
  have G_0_3_25 : σ25.2.2.1 o 3 = some (o + 22) := by rw [e25]; exact g_new (by omega) G_0_3_24
  have G_0_4_25 : σ25.2.2.1 o 4 = some (o + 36) := by rw [e25]; exact g_new (by omega) G_0_4_24
  have G_0_5_25 : σ25.2.2.1 o 5 = some (o + 50) := by rw [e25]; exact g_new (by omega) G_0_5_24
  have G_0_6_25 : σ25.2.2.1 o 6 = some (o + 76) := by rw [e25]; exact g_new (by omega) G_0_6_24
  have G_0_7_25 : σ25.2.2.1 o 7 = some (o + 102) := by rw [e25]; exact g_new (by omega) G_0_7_24
  have G_312_0_25 : σ25.2.2.1 (o + 312) 0 = some (o + 313) := by rw [e25]; exact g_new (by omega) G_312_0_24
  have S_0_25 : isRd (mBo σ25) (o + 2) := by rw [e25]; exact isRd_ext S_0_24 (fun q x h => k_new h) (fun q h1 h2 => mup_ne (by omega))
  have S_1_25 : isPrg (mBo σ25) (o + 22) := by rw [e25]; exact isPrg_ext S_1_24 (fun q x h => k_new h) (fun q h1 h2 => mup_ne (by omega))
  have S_2_25 : isPrg (mBo σ25) (o + 36) := by rw [e25]; exact isPrg_ext S_2_24 (fun q x h => k_new h) (fun q h1 h2 => mup_ne (by omega))
  have S_3_25 : isWorld (mBo σ25) (o + 50) := by rw [e25]; exact isWorld_ext S_3_24 (fun q x h => k_new h) (fun q h1 h2 => mup_ne (by omega))
  have S_4_25 : isWorld (mBo σ25) (o + 76) := by rw [e25]; exact isWorld_ext S_4_24 (fun q x h => k_new h) (fun q h1 h2 => mup_ne (by omega))
  have S_5_25 : isHi (mBo σ25) (o + 102) := by rw [e25]; exact isHi_ext S_5_24 (fun q x h => k_new h) (fun q h1 h2 => mup_ne (by omega))
  have S_6_25 : isWorld (mBo σ25) (o + 313) := by rw [e25]; exact isWorld_ext S_6_24 (fun q x h => k_new h) (fun q h1 h2 => mup_ne (by omega))
  have R_0_25 : σ25.2.2.2.1 o = fun _ => 0 := by rw [e25]; exact (mup_ne (by omega)).trans R_0_24
  have R_1_25 : σ25.2.2.2.1 (o + 1) = fun _ => 0 := by rw [e25]; exact (mup_ne (by omega)).trans R_1_24
  have R_3_25 : σ25.2.2.2.1 (o + 3) = (FX5_init_t (fun _ => 0)).2 := by rw [e25]; exact (mup_ne (by omega)).trans R_3_24
  have R_22_25 : σ25.2.2.2.1 (o + 22) = (FX4_empty (fun _ => 0) (fun _ => 0)).2.1 := by rw [e25]; exact (mup_ne (by omega)).trans R_22_24
  have R_35_25 : σ25.2.2.2.1 (o + 35) = (FX4_empty (fun _ => 0) (fun _ => 0)).2.2 := by rw [e25]; exact (mup_ne (by omega)).trans R_35_24
  have R_36_25 : σ25.2.2.2.1 (o + 36) = (FX4_empty (fun _ => 0) (fun _ => 0)).2.1 := by rw [e25]; exact (mup_ne (by omega)).trans R_36_24
  have R_49_25 : σ25.2.2.2.1 (o + 49) = (FX4_empty (fun _ => 0) (fun _ => 0)).2.2 := by rw [e25]; exact (mup_ne (by omega)).trans R_49_24
  have R_54_25 : σ25.2.2.2.1 (o + 54) = upd (fun _ => 0) 0 0 := by rw [e25]; exact (mup_ne (by omega)).trans R_54_24
  have R_65_25 : σ25.2.2.2.1 (o + 65) = upd (fun _ => 0) 0 1 := by rw [e25]; exact (mup_ne (by omega)).trans R_65_24
  have R_61_25 : σ25.2.2.2.1 (o + 61) = fun _ => 0 := by rw [e25]; exact (mup_ne (by omega)).trans R_61_24
  have R_72_25 : σ25.2.2.2.1 (o + 72) = fun _ => 0 := by rw [e25]; exact (mup_ne (by omega)).trans R_72_24
  have R_80_25 : σ25.2.2.2.1 (o + 80) = upd (fun _ => 0) 0 0 := by rw [e25]; exact (mup_ne (by omega)).trans R_80_24
  have R_91_25 : σ25.2.2.2.1 (o + 91) = upd (fun _ => 0) 0 1 := by rw [e25]; exact (mup_ne (by omega)).trans R_91_24
  have R_87_25 : σ25.2.2.2.1 (o + 87) = fun _ => 0 := by rw [e25]; exact (mup_ne (by omega)).trans R_87_24
  have R_98_25 : σ25.2.2.2.1 (o + 98) = fun _ => 0 := by rw [e25]; exact (mup_ne (by omega)).trans R_98_24
  have R_102_25 : σ25.2.2.2.1 (o + 102) = fun _ => 0 := by rw [e25]; exact (mup_ne (by omega)).trans R_102_24
  have R_108_25 : σ25.2.2.2.1 (o + 108) = upd (fun _ => 0) 0 0 := by rw [e25]; exact (mup_ne (by omega)).trans R_108_24
  have R_119_25 : σ25.2.2.2.1 (o + 119) = upd (fun _ => 0) 0 1 := by rw [e25]; exact (mup_ne (by omega)).trans R_119_24
  have R_134_25 : σ25.2.2.2.1 (o + 134) = upd (fun _ => 0) 0 0 := by rw [e25]; exact (mup_ne (by omega)).trans R_134_24
  have R_145_25 : σ25.2.2.2.1 (o + 145) = upd (fun _ => 0) 0 1 := by rw [e25]; exact (mup_ne (by omega)).trans R_145_24
  have R_160_25 : σ25.2.2.2.1 (o + 160) = upd (fun _ => 0) 0 0 := by rw [e25]; exact (mup_ne (by omega)).trans R_160_24
  have R_171_25 : σ25.2.2.2.1 (o + 171) = upd (fun _ => 0) 0 1 := by rw [e25]; exact (mup_ne (by omega)).trans R_171_24
  have R_186_25 : σ25.2.2.2.1 (o + 186) = upd (fun _ => 0) 0 0 := by rw [e25]; exact (mup_ne (by omega)).trans R_186_24
  have R_197_25 : σ25.2.2.2.1 (o + 197) = upd (fun _ => 0) 0 1 := by rw [e25]; exact (mup_ne (by omega)).trans R_197_24
  have R_212_25 : σ25.2.2.2.1 (o + 212) = upd (fun _ => 0) 0 0 := by rw [e25]; exact (mup_ne (by omega)).trans R_212_24
  have R_223_25 : σ25.2.2.2.1 (o + 223) = upd (fun _ => 0) 0 1 := by rw [e25]; exact (mup_ne (by omega)).trans R_223_24
  have R_238_25 : σ25.2.2.2.1 (o + 238) = upd (fun _ => 0) 0 0 := by rw [e25]; exact (mup_ne (by omega)).trans R_238_24
  have R_249_25 : σ25.2.2.2.1 (o + 249) = upd (fun _ => 0) 0 1 := by rw [e25]; exact (mup_ne (by omega)).trans R_249_24
  have R_264_25 : σ25.2.2.2.1 (o + 264) = upd (fun _ => 0) 0 0 := by rw [e25]; exact (mup_ne (by omega)).trans R_264_24
  have R_275_25 : σ25.2.2.2.1 (o + 275) = upd (fun _ => 0) 0 1 := by rw [e25]; exact (mup_ne (by omega)).trans R_275_24
  have R_290_25 : σ25.2.2.2.1 (o + 290) = upd (fun _ => 0) 0 0 := by rw [e25]; exact (mup_ne (by omega)).trans R_290_24
  have R_301_25 : σ25.2.2.2.1 (o + 301) = upd (fun _ => 0) 0 1 := by rw [e25]; exact (mup_ne (by omega)).trans R_301_24
  have R_312_25 : σ25.2.2.2.1 (o + 312) = fun _ => 0 := by rw [e25]; exact (mup_ne (by omega)).trans R_312_24
  have R_317_25 : σ25.2.2.2.1 (o + 317) = upd (fun _ => 0) 0 0 := by rw [e25]; exact (mup_ne (by omega)).trans R_317_24
  have R_328_25 : σ25.2.2.2.1 (o + 328) = upd (fun _ => 0) 0 1 := by rw [e25]; exact (mup_ne (by omega)).trans R_328_24
  have R_324_25 : σ25.2.2.2.1 (o + 324) = fun _ => 0 := by rw [e25]; exact (mup_ne (by omega)).trans R_324_24
  have R_335_25 : σ25.2.2.2.1 (o + 335) = fun _ => 0 := by rw [e25]; exact (mup_ne (by omega)).trans R_335_24
  have K_339_25 : σ25.2.1[o + 339]? = some (8, 0) := by rw [e25, ← show σ24.2.1.length = o + 339 by omega]; exact k_newS
  have R_339_25 : σ25.2.2.2.1 (o + 339) = fun _ => 0 := by rw [e25, ← show σ24.2.1.length = o + 339 by omega]; exact mup_eq
  clear K_0_24 K_1_24 K_2_24 K_22_24 K_36_24 K_50_24 K_76_24 K_102_24 K_312_24 K_313_24 G_0_0_24 G_0_2_24 G_0_3_24 G_0_4_24 G_0_5_24 G_0_6_24 G_0_7_24 G_312_0_24 S_0_24 S_1_24 S_2_24 S_3_24 S_4_24 S_5_24 S_6_24 R_0_24 R_1_24 R_3_24 R_22_24 R_35_24 R_36_24 R_49_24 R_54_24 R_65_24 R_61_24 R_72_24 R_80_24 R_91_24 R_87_24 R_98_24 R_102_24 R_108_24 R_119_24 R_134_24 R_145_24 R_160_24 R_171_24 R_186_24 R_197_24 R_212_24 R_223_24 R_238_24 R_249_24 R_264_24 R_275_24 R_290_24 R_301_24 R_312_24 R_317_24 R_328_24 R_324_24 R_335_24 N_24 T_24 O_24 X_24 e25 σ24
  show RC _ _ _ [some (.ref o)] [.ref (o + 339), .int 1, .ref (o + 312), .ref (o + 312), .ref o] σ25 _
  refine c_dup rfl ?_
  refine c_call (o := o + 339) (as := []) (st := [.ref (o + 339), .int 1, .ref (o + 312), .ref (o + 312), .ref o]) (rfl) rfl (Nat.le_of_ble_eq_true rfl) (Or.inr rfl) (ltL [o] rfl (List.forall_mem_cons.mpr ⟨by omega, (fun _ h => absurd h List.not_mem_nil)⟩)) (ltS [o + 339, o + 312, o + 312, o] rfl (List.forall_mem_cons.mpr ⟨by omega, (List.forall_mem_cons.mpr ⟨by omega, (List.forall_mem_cons.mpr ⟨by omega, (List.forall_mem_cons.mpr ⟨by omega, (fun _ h => absurd h List.not_mem_nil)⟩)⟩)⟩)⟩)) (nY8_init (by omega) O_25 R_339_25 K_339_25 (by omega)) (fun σ26 Z_26 => ?_)
  obtain ⟨E_26, NN_26, TT_26, O_26, Y0_26, Y1_26, Y2_26, Y3_26, Y4_26⟩ := Z_26
  have N_26 : σ26.2.1.length = o + 365 := by omega
  have T_26 : σ26.1 = σ.1 + 10334 := by omega
  have X_26 : Ex σ σ26 o := X_25.call E_26 (by omega)
  have K_0_26 : σ26.2.1[o]? = some (9, 0) := E_26.1 _ _ K_0_25
  have K_1_26 : σ26.2.1[o + 1]? = some (21, 700) := E_26.1 _ _ K_1_25
  have K_2_26 : σ26.2.1[o + 2]? = some (5, 0) := E_26.1 _ _ K_2_25
  have K_22_26 : σ26.2.1[o + 22]? = some (4, 0) := E_26.1 _ _ K_22_25
  have K_36_26 : σ26.2.1[o + 36]? = some (4, 0) := E_26.1 _ _ K_36_25
  have K_50_26 : σ26.2.1[o + 50]? = some (8, 0) := E_26.1 _ _ K_50_25
  have K_76_26 : σ26.2.1[o + 76]? = some (8, 0) := E_26.1 _ _ K_76_25
  have K_102_26 : σ26.2.1[o + 102]? = some (1, 0) := E_26.1 _ _ K_102_25
  have K_312_26 : σ26.2.1[o + 312]? = some (26, 2) := E_26.1 _ _ K_312_25
  have K_313_26 : σ26.2.1[o + 313]? = some (8, 0) := E_26.1 _ _ K_313_25
  have K_339_26 : σ26.2.1[o + 339]? = some (8, 0) := E_26.1 _ _ K_339_25
  have G_0_0_26 : σ26.2.2.1 o 0 = some (o + 1) := by rw [(E_26.2 _ (by omega) (by omega)).1]; exact G_0_0_25
  have G_0_2_26 : σ26.2.2.1 o 2 = some (o + 2) := by rw [(E_26.2 _ (by omega) (by omega)).1]; exact G_0_2_25
  have G_0_3_26 : σ26.2.2.1 o 3 = some (o + 22) := by rw [(E_26.2 _ (by omega) (by omega)).1]; exact G_0_3_25
  have G_0_4_26 : σ26.2.2.1 o 4 = some (o + 36) := by rw [(E_26.2 _ (by omega) (by omega)).1]; exact G_0_4_25
  have G_0_5_26 : σ26.2.2.1 o 5 = some (o + 50) := by rw [(E_26.2 _ (by omega) (by omega)).1]; exact G_0_5_25
  have G_0_6_26 : σ26.2.2.1 o 6 = some (o + 76) := by rw [(E_26.2 _ (by omega) (by omega)).1]; exact G_0_6_25
  have G_0_7_26 : σ26.2.2.1 o 7 = some (o + 102) := by rw [(E_26.2 _ (by omega) (by omega)).1]; exact G_0_7_25
  have G_312_0_26 : σ26.2.2.1 (o + 312) 0 = some (o + 313) := by rw [(E_26.2 _ (by omega) (by omega)).1]; exact G_312_0_25
  have S_0_26 : isRd (mBo σ26) (o + 2) := isRd_ext S_0_25 E_26.1 (fun q h1 h2 => (E_26.2 q (by omega) (by omega)).1)
  have S_1_26 : isPrg (mBo σ26) (o + 22) := isPrg_ext S_1_25 E_26.1 (fun q h1 h2 => (E_26.2 q (by omega) (by omega)).1)
  have S_2_26 : isPrg (mBo σ26) (o + 36) := isPrg_ext S_2_25 E_26.1 (fun q h1 h2 => (E_26.2 q (by omega) (by omega)).1)
  have S_3_26 : isWorld (mBo σ26) (o + 50) := isWorld_ext S_3_25 E_26.1 (fun q h1 h2 => (E_26.2 q (by omega) (by omega)).1)
  have S_4_26 : isWorld (mBo σ26) (o + 76) := isWorld_ext S_4_25 E_26.1 (fun q h1 h2 => (E_26.2 q (by omega) (by omega)).1)
  have S_5_26 : isHi (mBo σ26) (o + 102) := isHi_ext S_5_25 E_26.1 (fun q h1 h2 => (E_26.2 q (by omega) (by omega)).1)
  have S_6_26 : isWorld (mBo σ26) (o + 313) := isWorld_ext S_6_25 E_26.1 (fun q h1 h2 => (E_26.2 q (by omega) (by omega)).1)
  have R_0_26 : σ26.2.2.2.1 o = fun _ => 0 := by rw [(E_26.2 _ (by omega) (by omega)).2.1]; exact R_0_25
  have R_1_26 : σ26.2.2.2.1 (o + 1) = fun _ => 0 := by rw [(E_26.2 _ (by omega) (by omega)).2.1]; exact R_1_25
  have R_3_26 : σ26.2.2.2.1 (o + 3) = (FX5_init_t (fun _ => 0)).2 := by rw [(E_26.2 _ (by omega) (by omega)).2.1]; exact R_3_25
  have R_22_26 : σ26.2.2.2.1 (o + 22) = (FX4_empty (fun _ => 0) (fun _ => 0)).2.1 := by rw [(E_26.2 _ (by omega) (by omega)).2.1]; exact R_22_25
  have R_35_26 : σ26.2.2.2.1 (o + 35) = (FX4_empty (fun _ => 0) (fun _ => 0)).2.2 := by rw [(E_26.2 _ (by omega) (by omega)).2.1]; exact R_35_25
  have R_36_26 : σ26.2.2.2.1 (o + 36) = (FX4_empty (fun _ => 0) (fun _ => 0)).2.1 := by rw [(E_26.2 _ (by omega) (by omega)).2.1]; exact R_36_25
  have R_49_26 : σ26.2.2.2.1 (o + 49) = (FX4_empty (fun _ => 0) (fun _ => 0)).2.2 := by rw [(E_26.2 _ (by omega) (by omega)).2.1]; exact R_49_25
  have R_54_26 : σ26.2.2.2.1 (o + 54) = upd (fun _ => 0) 0 0 := by rw [(E_26.2 _ (by omega) (by omega)).2.1]; exact R_54_25
  have R_65_26 : σ26.2.2.2.1 (o + 65) = upd (fun _ => 0) 0 1 := by rw [(E_26.2 _ (by omega) (by omega)).2.1]; exact R_65_25
  have R_61_26 : σ26.2.2.2.1 (o + 61) = fun _ => 0 := by rw [(E_26.2 _ (by omega) (by omega)).2.1]; exact R_61_25
  have R_72_26 : σ26.2.2.2.1 (o + 72) = fun _ => 0 := by rw [(E_26.2 _ (by omega) (by omega)).2.1]; exact R_72_25
  have R_80_26 : σ26.2.2.2.1 (o + 80) = upd (fun _ => 0) 0 0 := by rw [(E_26.2 _ (by omega) (by omega)).2.1]; exact R_80_25
  have R_91_26 : σ26.2.2.2.1 (o + 91) = upd (fun _ => 0) 0 1 := by rw [(E_26.2 _ (by omega) (by omega)).2.1]; exact R_91_25
  have R_87_26 : σ26.2.2.2.1 (o + 87) = fun _ => 0 := by rw [(E_26.2 _ (by omega) (by omega)).2.1]; exact R_87_25
  have R_98_26 : σ26.2.2.2.1 (o + 98) = fun _ => 0 := by rw [(E_26.2 _ (by omega) (by omega)).2.1]; exact R_98_25
  have R_102_26 : σ26.2.2.2.1 (o + 102) = fun _ => 0 := by rw [(E_26.2 _ (by omega) (by omega)).2.1]; exact R_102_25
  have R_108_26 : σ26.2.2.2.1 (o + 108) = upd (fun _ => 0) 0 0 := by rw [(E_26.2 _ (by omega) (by omega)).2.1]; exact R_108_25
  have R_119_26 : σ26.2.2.2.1 (o + 119) = upd (fun _ => 0) 0 1 := by rw [(E_26.2 _ (by omega) (by omega)).2.1]; exact R_119_25
  have R_134_26 : σ26.2.2.2.1 (o + 134) = upd (fun _ => 0) 0 0 := by rw [(E_26.2 _ (by omega) (by omega)).2.1]; exact R_134_25
  have R_145_26 : σ26.2.2.2.1 (o + 145) = upd (fun _ => 0) 0 1 := by rw [(E_26.2 _ (by omega) (by omega)).2.1]; exact R_145_25
  have R_160_26 : σ26.2.2.2.1 (o + 160) = upd (fun _ => 0) 0 0 := by rw [(E_26.2 _ (by omega) (by omega)).2.1]; exact R_160_25
  have R_171_26 : σ26.2.2.2.1 (o + 171) = upd (fun _ => 0) 0 1 := by rw [(E_26.2 _ (by omega) (by omega)).2.1]; exact R_171_25
  have R_186_26 : σ26.2.2.2.1 (o + 186) = upd (fun _ => 0) 0 0 := by rw [(E_26.2 _ (by omega) (by omega)).2.1]; exact R_186_25
  have R_197_26 : σ26.2.2.2.1 (o + 197) = upd (fun _ => 0) 0 1 := by rw [(E_26.2 _ (by omega) (by omega)).2.1]; exact R_197_25
  have R_212_26 : σ26.2.2.2.1 (o + 212) = upd (fun _ => 0) 0 0 := by rw [(E_26.2 _ (by omega) (by omega)).2.1]; exact R_212_25
  have R_223_26 : σ26.2.2.2.1 (o + 223) = upd (fun _ => 0) 0 1 := by rw [(E_26.2 _ (by omega) (by omega)).2.1]; exact R_223_25
  have R_238_26 : σ26.2.2.2.1 (o + 238) = upd (fun _ => 0) 0 0 := by rw [(E_26.2 _ (by omega) (by omega)).2.1]; exact R_238_25
  have R_249_26 : σ26.2.2.2.1 (o + 249) = upd (fun _ => 0) 0 1 := by rw [(E_26.2 _ (by omega) (by omega)).2.1]; exact R_249_25
  have R_264_26 : σ26.2.2.2.1 (o + 264) = upd (fun _ => 0) 0 0 := by rw [(E_26.2 _ (by omega) (by omega)).2.1]; exact R_264_25
  have R_275_26 : σ26.2.2.2.1 (o + 275) = upd (fun _ => 0) 0 1 := by rw [(E_26.2 _ (by omega) (by omega)).2.1]; exact R_275_25
  have R_290_26 : σ26.2.2.2.1 (o + 290) = upd (fun _ => 0) 0 0 := by rw [(E_26.2 _ (by omega) (by omega)).2.1]; exact R_290_25
  have R_301_26 : σ26.2.2.2.1 (o + 301) = upd (fun _ => 0) 0 1 := by rw [(E_26.2 _ (by omega) (by omega)).2.1]; exact R_301_25
  have R_312_26 : σ26.2.2.2.1 (o + 312) = fun _ => 0 := by rw [(E_26.2 _ (by omega) (by omega)).2.1]; exact R_312_25
  have R_317_26 : σ26.2.2.2.1 (o + 317) = upd (fun _ => 0) 0 0 := by rw [(E_26.2 _ (by omega) (by omega)).2.1]; exact R_317_25
  have R_328_26 : σ26.2.2.2.1 (o + 328) = upd (fun _ => 0) 0 1 := by rw [(E_26.2 _ (by omega) (by omega)).2.1]; exact R_328_25
  have R_324_26 : σ26.2.2.2.1 (o + 324) = fun _ => 0 := by rw [(E_26.2 _ (by omega) (by omega)).2.1]; exact R_324_25
  have R_335_26 : σ26.2.2.2.1 (o + 335) = fun _ => 0 := by rw [(E_26.2 _ (by omega) (by omega)).2.1]; exact R_335_25
  have S_7_26 : isWorld (mBo σ26) (o + 339) := Y0_26
  have R_343_26 : σ26.2.2.2.1 (o + 343) = upd (fun _ => 0) 0 0 := Y1_26
  have R_354_26 : σ26.2.2.2.1 (o + 354) = upd (fun _ => 0) 0 1 := Y2_26
  have R_350_26 : σ26.2.2.2.1 (o + 350) = fun _ => 0 := Y3_26
  have R_361_26 : σ26.2.2.2.1 (o + 361) = fun _ => 0 := Y4_26
  clear K_0_25 K_1_25 K_2_25 K_22_25 K_36_25 K_50_25 K_76_25 K_102_25 K_312_25 K_313_25 K_339_25 G_0_0_25 G_0_2_25 G_0_3_25 G_0_4_25 G_0_5_25 G_0_6_25 G_0_7_25 G_312_0_25 S_0_25 S_1_25 S_2_25 S_3_25 S_4_25 S_5_25 S_6_25 R_0_25 R_1_25 R_3_25 R_22_25 R_35_25 R_36_25 R_49_25 R_54_25 R_65_25 R_61_25 R_72_25 R_80_25 R_91_25 R_87_25 R_98_25 R_102_25 R_108_25 R_119_25 R_134_25 R_145_25 R_160_25 R_171_25 R_186_25 R_197_25 R_212_25 R_223_25 R_238_25 R_249_25 R_264_25 R_275_25 R_290_25 R_301_25 R_312_25 R_317_25 R_328_25 R_324_25 R_335_25 R_339_25 N_25 T_25 O_25 X_25 E_26 NN_26 TT_26 Y0_26 Y1_26 Y2_26 Y3_26 Y4_26 σ25
  show RC _ _ _ [some (.ref o)] [.ref (o + 339), .int 1, .ref (o + 312), .ref (o + 312), .ref o] σ26 _
  refine c_ast K_312_26 (Or.inr (Or.inr rfl)) K_339_26 (lt_in 1 2 rfl rfl) ?_
  rw [show ((1 : Int32)).toNatClampNeg = 1 by decide]
  obtain ⟨σ27, e27⟩ : ∃ x, x = mPr σ26 (o + 312) 1 (some (o + 339)) := ⟨_, rfl⟩
  rw [← e27]
  have N_27 : σ27.2.1.length = o + 365 := by rw [e27]; exact N_26
  have T_27 : σ27.1 = σ.1 + 10334 := by rw [e27]; exact T_26
  have O_27 : rOK σ27 := by rw [e27]; exact rOK_pr O_26 (by omega)
  have X_27 : Ex σ σ27 o := by rw [e27]; exact X_26.pr (by omega)
  have K_0_27 : σ27.2.1[o]? = some (9, 0) := by rw [e27]; exact K_0_26
  have K_1_27 : σ27.2.1[o + 1]? = some (21, 700) := by rw [e27]; exact K_1_26
  have K_2_27 : σ27.2.1[o + 2]? = some (5, 0) := by rw [e27]; exact K_2_26
  have K_22_27 : σ27.2.1[o + 22]? = some (4, 0) := by rw [e27]; exact K_22_26
  have K_36_27 : σ27.2.1[o + 36]? = some (4, 0) := by rw [e27]; exact K_36_26
  have K_50_27 : σ27.2.1[o + 50]? = some (8, 0) := by rw [e27]; exact K_50_26
  have K_76_27 : σ27.2.1[o + 76]? = some (8, 0) := by rw [e27]; exact K_76_26
  have K_102_27 : σ27.2.1[o + 102]? = some (1, 0) := by rw [e27]; exact K_102_26
  have K_312_27 : σ27.2.1[o + 312]? = some (26, 2) := by rw [e27]; exact K_312_26
  have K_313_27 : σ27.2.1[o + 313]? = some (8, 0) := by rw [e27]; exact K_313_26
  have K_339_27 : σ27.2.1[o + 339]? = some (8, 0) := by rw [e27]; exact K_339_26
  have G_0_0_27 : σ27.2.2.1 o 0 = some (o + 1) := by rw [e27]; exact g_prO (by omega) G_0_0_26
  have G_0_2_27 : σ27.2.2.1 o 2 = some (o + 2) := by rw [e27]; exact g_prO (by omega) G_0_2_26
  have G_0_3_27 : σ27.2.2.1 o 3 = some (o + 22) := by rw [e27]; exact g_prO (by omega) G_0_3_26
  have G_0_4_27 : σ27.2.2.1 o 4 = some (o + 36) := by rw [e27]; exact g_prO (by omega) G_0_4_26
  have G_0_5_27 : σ27.2.2.1 o 5 = some (o + 50) := by rw [e27]; exact g_prO (by omega) G_0_5_26
  have G_0_6_27 : σ27.2.2.1 o 6 = some (o + 76) := by rw [e27]; exact g_prO (by omega) G_0_6_26
  have G_0_7_27 : σ27.2.2.1 o 7 = some (o + 102) := by rw [e27]; exact g_prO (by omega) G_0_7_26
  have G_312_0_27 : σ27.2.2.1 (o + 312) 0 = some (o + 313) := by rw [e27]; exact g_prK (by decide) G_312_0_26
  have S_0_27 : isRd (mBo σ27) (o + 2) := by rw [e27]; exact isRd_ext S_0_26 (fun q x h => h) (fun q h1 h2 => mup_ne (by omega))
  have S_1_27 : isPrg (mBo σ27) (o + 22) := by rw [e27]; exact isPrg_ext S_1_26 (fun q x h => h) (fun q h1 h2 => mup_ne (by omega))
  have S_2_27 : isPrg (mBo σ27) (o + 36) := by rw [e27]; exact isPrg_ext S_2_26 (fun q x h => h) (fun q h1 h2 => mup_ne (by omega))
  have S_3_27 : isWorld (mBo σ27) (o + 50) := by rw [e27]; exact isWorld_ext S_3_26 (fun q x h => h) (fun q h1 h2 => mup_ne (by omega))
  have S_4_27 : isWorld (mBo σ27) (o + 76) := by rw [e27]; exact isWorld_ext S_4_26 (fun q x h => h) (fun q h1 h2 => mup_ne (by omega))
  have S_5_27 : isHi (mBo σ27) (o + 102) := by rw [e27]; exact isHi_ext S_5_26 (fun q x h => h) (fun q h1 h2 => mup_ne (by omega))
  have S_6_27 : isWorld (mBo σ27) (o + 313) := by rw [e27]; exact isWorld_ext S_6_26 (fun q x h => h) (fun q h1 h2 => mup_ne (by omega))
  have S_7_27 : isWorld (mBo σ27) (o + 339) := by rw [e27]; exact isWorld_ext S_7_26 (fun q x h => h) (fun q h1 h2 => mup_ne (by omega))
  have R_0_27 : σ27.2.2.2.1 o = fun _ => 0 := by rw [e27]; exact R_0_26
  have R_1_27 : σ27.2.2.2.1 (o + 1) = fun _ => 0 := by rw [e27]; exact R_1_26
  have R_3_27 : σ27.2.2.2.1 (o + 3) = (FX5_init_t (fun _ => 0)).2 := by rw [e27]; exact R_3_26
  have R_22_27 : σ27.2.2.2.1 (o + 22) = (FX4_empty (fun _ => 0) (fun _ => 0)).2.1 := by rw [e27]; exact R_22_26
  have R_35_27 : σ27.2.2.2.1 (o + 35) = (FX4_empty (fun _ => 0) (fun _ => 0)).2.2 := by rw [e27]; exact R_35_26
  have R_36_27 : σ27.2.2.2.1 (o + 36) = (FX4_empty (fun _ => 0) (fun _ => 0)).2.1 := by rw [e27]; exact R_36_26
  have R_49_27 : σ27.2.2.2.1 (o + 49) = (FX4_empty (fun _ => 0) (fun _ => 0)).2.2 := by rw [e27]; exact R_49_26
  have R_54_27 : σ27.2.2.2.1 (o + 54) = upd (fun _ => 0) 0 0 := by rw [e27]; exact R_54_26
  have R_65_27 : σ27.2.2.2.1 (o + 65) = upd (fun _ => 0) 0 1 := by rw [e27]; exact R_65_26
  have R_61_27 : σ27.2.2.2.1 (o + 61) = fun _ => 0 := by rw [e27]; exact R_61_26
  have R_72_27 : σ27.2.2.2.1 (o + 72) = fun _ => 0 := by rw [e27]; exact R_72_26
  have R_80_27 : σ27.2.2.2.1 (o + 80) = upd (fun _ => 0) 0 0 := by rw [e27]; exact R_80_26
  have R_91_27 : σ27.2.2.2.1 (o + 91) = upd (fun _ => 0) 0 1 := by rw [e27]; exact R_91_26
  have R_87_27 : σ27.2.2.2.1 (o + 87) = fun _ => 0 := by rw [e27]; exact R_87_26
  have R_98_27 : σ27.2.2.2.1 (o + 98) = fun _ => 0 := by rw [e27]; exact R_98_26
  have R_102_27 : σ27.2.2.2.1 (o + 102) = fun _ => 0 := by rw [e27]; exact R_102_26
  have R_108_27 : σ27.2.2.2.1 (o + 108) = upd (fun _ => 0) 0 0 := by rw [e27]; exact R_108_26
  have R_119_27 : σ27.2.2.2.1 (o + 119) = upd (fun _ => 0) 0 1 := by rw [e27]; exact R_119_26
  have R_134_27 : σ27.2.2.2.1 (o + 134) = upd (fun _ => 0) 0 0 := by rw [e27]; exact R_134_26
  have R_145_27 : σ27.2.2.2.1 (o + 145) = upd (fun _ => 0) 0 1 := by rw [e27]; exact R_145_26
  have R_160_27 : σ27.2.2.2.1 (o + 160) = upd (fun _ => 0) 0 0 := by rw [e27]; exact R_160_26
  have R_171_27 : σ27.2.2.2.1 (o + 171) = upd (fun _ => 0) 0 1 := by rw [e27]; exact R_171_26
  have R_186_27 : σ27.2.2.2.1 (o + 186) = upd (fun _ => 0) 0 0 := by rw [e27]; exact R_186_26
  have R_197_27 : σ27.2.2.2.1 (o + 197) = upd (fun _ => 0) 0 1 := by rw [e27]; exact R_197_26
  have R_212_27 : σ27.2.2.2.1 (o + 212) = upd (fun _ => 0) 0 0 := by rw [e27]; exact R_212_26
  have R_223_27 : σ27.2.2.2.1 (o + 223) = upd (fun _ => 0) 0 1 := by rw [e27]; exact R_223_26
  have R_238_27 : σ27.2.2.2.1 (o + 238) = upd (fun _ => 0) 0 0 := by rw [e27]; exact R_238_26
  have R_249_27 : σ27.2.2.2.1 (o + 249) = upd (fun _ => 0) 0 1 := by rw [e27]; exact R_249_26
  have R_264_27 : σ27.2.2.2.1 (o + 264) = upd (fun _ => 0) 0 0 := by rw [e27]; exact R_264_26
  have R_275_27 : σ27.2.2.2.1 (o + 275) = upd (fun _ => 0) 0 1 := by rw [e27]; exact R_275_26
  have R_290_27 : σ27.2.2.2.1 (o + 290) = upd (fun _ => 0) 0 0 := by rw [e27]; exact R_290_26
  have R_301_27 : σ27.2.2.2.1 (o + 301) = upd (fun _ => 0) 0 1 := by rw [e27]; exact R_301_26
  have R_312_27 : σ27.2.2.2.1 (o + 312) = fun _ => 0 := by rw [e27]; exact R_312_26
  have R_317_27 : σ27.2.2.2.1 (o + 317) = upd (fun _ => 0) 0 0 := by rw [e27]; exact R_317_26
  have R_328_27 : σ27.2.2.2.1 (o + 328) = upd (fun _ => 0) 0 1 := by rw [e27]; exact R_328_26
  have R_324_27 : σ27.2.2.2.1 (o + 324) = fun _ => 0 := by rw [e27]; exact R_324_26
  have R_335_27 : σ27.2.2.2.1 (o + 335) = fun _ => 0 := by rw [e27]; exact R_335_26
  have R_343_27 : σ27.2.2.2.1 (o + 343) = upd (fun _ => 0) 0 0 := by rw [e27]; exact R_343_26
  have R_354_27 : σ27.2.2.2.1 (o + 354) = upd (fun _ => 0) 0 1 := by rw [e27]; exact R_354_26
  have R_350_27 : σ27.2.2.2.1 (o + 350) = fun _ => 0 := by rw [e27]; exact R_350_26
  have R_361_27 : σ27.2.2.2.1 (o + 361) = fun _ => 0 := by rw [e27]; exact R_361_26
  have G_312_1_27 : σ27.2.2.1 (o + 312) 1 = some (o + 339) := by rw [e27]; exact g_prS
  clear K_0_26 K_1_26 K_2_26 K_22_26 K_36_26 K_50_26 K_76_26 K_102_26 K_312_26 K_313_26 K_339_26 G_0_0_26 G_0_2_26 G_0_3_26 G_0_4_26 G_0_5_26 G_0_6_26 G_0_7_26 G_312_0_26 S_0_26 S_1_26 S_2_26 S_3_26 S_4_26 S_5_26 S_6_26 S_7_26 R_0_26 R_1_26 R_3_26 R_22_26 R_35_26 R_36_26 R_49_26 R_54_26 R_65_26 R_61_26 R_72_26 R_80_26 R_91_26 R_87_26 R_98_26 R_102_26 R_108_26 R_119_26 R_134_26 R_145_26 R_160_26 R_171_26 R_186_26 R_197_26 R_212_26 R_223_26 R_238_26 R_249_26 R_264_26 R_275_26 R_290_26 R_301_26 R_312_26 R_317_26 R_328_26 R_324_26 R_335_26 R_343_26 R_354_26 R_350_26 R_361_26 N_26 T_26 O_26 X_26 e27 σ26
  show RC _ _ _ [some (.ref o)] [.ref (o + 312), .ref o] σ27 _
  refine c_putr K_0_27 ?_
  obtain ⟨σ28, e28⟩ : ∃ x, x = mPr σ27 o 8 (some (o + 312)) := ⟨_, rfl⟩
  rw [← e28]
  have N_28 : σ28.2.1.length = o + 365 := by rw [e28]; exact N_27
  have T_28 : σ28.1 = σ.1 + 10334 := by rw [e28]; exact T_27
  have O_28 : rOK σ28 := by rw [e28]; exact rOK_pr O_27 (by omega)
  have X_28 : Ex σ σ28 o := by rw [e28]; exact X_27.pr (by omega)
  have K_0_28 : σ28.2.1[o]? = some (9, 0) := by rw [e28]; exact K_0_27
  have K_1_28 : σ28.2.1[o + 1]? = some (21, 700) := by rw [e28]; exact K_1_27
  have K_2_28 : σ28.2.1[o + 2]? = some (5, 0) := by rw [e28]; exact K_2_27
  have K_22_28 : σ28.2.1[o + 22]? = some (4, 0) := by rw [e28]; exact K_22_27
  have K_36_28 : σ28.2.1[o + 36]? = some (4, 0) := by rw [e28]; exact K_36_27
  have K_50_28 : σ28.2.1[o + 50]? = some (8, 0) := by rw [e28]; exact K_50_27
  have K_76_28 : σ28.2.1[o + 76]? = some (8, 0) := by rw [e28]; exact K_76_27
  have K_102_28 : σ28.2.1[o + 102]? = some (1, 0) := by rw [e28]; exact K_102_27
  have K_312_28 : σ28.2.1[o + 312]? = some (26, 2) := by rw [e28]; exact K_312_27
  have K_313_28 : σ28.2.1[o + 313]? = some (8, 0) := by rw [e28]; exact K_313_27
  have K_339_28 : σ28.2.1[o + 339]? = some (8, 0) := by rw [e28]; exact K_339_27
  have G_0_0_28 : σ28.2.2.1 o 0 = some (o + 1) := by rw [e28]; exact g_prK (by decide) G_0_0_27
  have G_0_2_28 : σ28.2.2.1 o 2 = some (o + 2) := by rw [e28]; exact g_prK (by decide) G_0_2_27
  have G_0_3_28 : σ28.2.2.1 o 3 = some (o + 22) := by rw [e28]; exact g_prK (by decide) G_0_3_27
  have G_0_4_28 : σ28.2.2.1 o 4 = some (o + 36) := by rw [e28]; exact g_prK (by decide) G_0_4_27
  have G_0_5_28 : σ28.2.2.1 o 5 = some (o + 50) := by rw [e28]; exact g_prK (by decide) G_0_5_27
  have G_0_6_28 : σ28.2.2.1 o 6 = some (o + 76) := by rw [e28]; exact g_prK (by decide) G_0_6_27
  have G_0_7_28 : σ28.2.2.1 o 7 = some (o + 102) := by rw [e28]; exact g_prK (by decide) G_0_7_27
  have G_312_0_28 : σ28.2.2.1 (o + 312) 0 = some (o + 313) := by rw [e28]; exact g_prO (by omega) G_312_0_27
  have G_312_1_28 : σ28.2.2.1 (o + 312) 1 = some (o + 339) := by rw [e28]; exact g_prO (by omega) G_312_1_27
  have S_0_28 : isRd (mBo σ28) (o + 2) := by rw [e28]; exact isRd_ext S_0_27 (fun q x h => h) (fun q h1 h2 => mup_ne (by omega))
  have S_1_28 : isPrg (mBo σ28) (o + 22) := by rw [e28]; exact isPrg_ext S_1_27 (fun q x h => h) (fun q h1 h2 => mup_ne (by omega))
  have S_2_28 : isPrg (mBo σ28) (o + 36) := by rw [e28]; exact isPrg_ext S_2_27 (fun q x h => h) (fun q h1 h2 => mup_ne (by omega))
  have S_3_28 : isWorld (mBo σ28) (o + 50) := by rw [e28]; exact isWorld_ext S_3_27 (fun q x h => h) (fun q h1 h2 => mup_ne (by omega))
  have S_4_28 : isWorld (mBo σ28) (o + 76) := by rw [e28]; exact isWorld_ext S_4_27 (fun q x h => h) (fun q h1 h2 => mup_ne (by omega))
  have S_5_28 : isHi (mBo σ28) (o + 102) := by rw [e28]; exact isHi_ext S_5_27 (fun q x h => h) (fun q h1 h2 => mup_ne (by omega))
  have S_6_28 : isWorld (mBo σ28) (o + 313) := by rw [e28]; exact isWorld_ext S_6_27 (fun q x h => h) (fun q h1 h2 => mup_ne (by omega))
  have S_7_28 : isWorld (mBo σ28) (o + 339) := by rw [e28]; exact isWorld_ext S_7_27 (fun q x h => h) (fun q h1 h2 => mup_ne (by omega))
  have R_0_28 : σ28.2.2.2.1 o = fun _ => 0 := by rw [e28]; exact R_0_27
  have R_1_28 : σ28.2.2.2.1 (o + 1) = fun _ => 0 := by rw [e28]; exact R_1_27
  have R_3_28 : σ28.2.2.2.1 (o + 3) = (FX5_init_t (fun _ => 0)).2 := by rw [e28]; exact R_3_27
  have R_22_28 : σ28.2.2.2.1 (o + 22) = (FX4_empty (fun _ => 0) (fun _ => 0)).2.1 := by rw [e28]; exact R_22_27
  have R_35_28 : σ28.2.2.2.1 (o + 35) = (FX4_empty (fun _ => 0) (fun _ => 0)).2.2 := by rw [e28]; exact R_35_27
  have R_36_28 : σ28.2.2.2.1 (o + 36) = (FX4_empty (fun _ => 0) (fun _ => 0)).2.1 := by rw [e28]; exact R_36_27
  have R_49_28 : σ28.2.2.2.1 (o + 49) = (FX4_empty (fun _ => 0) (fun _ => 0)).2.2 := by rw [e28]; exact R_49_27
  have R_54_28 : σ28.2.2.2.1 (o + 54) = upd (fun _ => 0) 0 0 := by rw [e28]; exact R_54_27
  have R_65_28 : σ28.2.2.2.1 (o + 65) = upd (fun _ => 0) 0 1 := by rw [e28]; exact R_65_27
  have R_61_28 : σ28.2.2.2.1 (o + 61) = fun _ => 0 := by rw [e28]; exact R_61_27
  have R_72_28 : σ28.2.2.2.1 (o + 72) = fun _ => 0 := by rw [e28]; exact R_72_27
  have R_80_28 : σ28.2.2.2.1 (o + 80) = upd (fun _ => 0) 0 0 := by rw [e28]; exact R_80_27
  have R_91_28 : σ28.2.2.2.1 (o + 91) = upd (fun _ => 0) 0 1 := by rw [e28]; exact R_91_27
  have R_87_28 : σ28.2.2.2.1 (o + 87) = fun _ => 0 := by rw [e28]; exact R_87_27
  have R_98_28 : σ28.2.2.2.1 (o + 98) = fun _ => 0 := by rw [e28]; exact R_98_27
  have R_102_28 : σ28.2.2.2.1 (o + 102) = fun _ => 0 := by rw [e28]; exact R_102_27
  have R_108_28 : σ28.2.2.2.1 (o + 108) = upd (fun _ => 0) 0 0 := by rw [e28]; exact R_108_27
  have R_119_28 : σ28.2.2.2.1 (o + 119) = upd (fun _ => 0) 0 1 := by rw [e28]; exact R_119_27
  have R_134_28 : σ28.2.2.2.1 (o + 134) = upd (fun _ => 0) 0 0 := by rw [e28]; exact R_134_27
  have R_145_28 : σ28.2.2.2.1 (o + 145) = upd (fun _ => 0) 0 1 := by rw [e28]; exact R_145_27
  have R_160_28 : σ28.2.2.2.1 (o + 160) = upd (fun _ => 0) 0 0 := by rw [e28]; exact R_160_27
  have R_171_28 : σ28.2.2.2.1 (o + 171) = upd (fun _ => 0) 0 1 := by rw [e28]; exact R_171_27
  have R_186_28 : σ28.2.2.2.1 (o + 186) = upd (fun _ => 0) 0 0 := by rw [e28]; exact R_186_27
  have R_197_28 : σ28.2.2.2.1 (o + 197) = upd (fun _ => 0) 0 1 := by rw [e28]; exact R_197_27
  have R_212_28 : σ28.2.2.2.1 (o + 212) = upd (fun _ => 0) 0 0 := by rw [e28]; exact R_212_27
  have R_223_28 : σ28.2.2.2.1 (o + 223) = upd (fun _ => 0) 0 1 := by rw [e28]; exact R_223_27
  have R_238_28 : σ28.2.2.2.1 (o + 238) = upd (fun _ => 0) 0 0 := by rw [e28]; exact R_238_27
  have R_249_28 : σ28.2.2.2.1 (o + 249) = upd (fun _ => 0) 0 1 := by rw [e28]; exact R_249_27
  have R_264_28 : σ28.2.2.2.1 (o + 264) = upd (fun _ => 0) 0 0 := by rw [e28]; exact R_264_27
  have R_275_28 : σ28.2.2.2.1 (o + 275) = upd (fun _ => 0) 0 1 := by rw [e28]; exact R_275_27
  have R_290_28 : σ28.2.2.2.1 (o + 290) = upd (fun _ => 0) 0 0 := by rw [e28]; exact R_290_27
  have R_301_28 : σ28.2.2.2.1 (o + 301) = upd (fun _ => 0) 0 1 := by rw [e28]; exact R_301_27
  have R_312_28 : σ28.2.2.2.1 (o + 312) = fun _ => 0 := by rw [e28]; exact R_312_27
  have R_317_28 : σ28.2.2.2.1 (o + 317) = upd (fun _ => 0) 0 0 := by rw [e28]; exact R_317_27
  have R_328_28 : σ28.2.2.2.1 (o + 328) = upd (fun _ => 0) 0 1 := by rw [e28]; exact R_328_27
  have R_324_28 : σ28.2.2.2.1 (o + 324) = fun _ => 0 := by rw [e28]; exact R_324_27
  have R_335_28 : σ28.2.2.2.1 (o + 335) = fun _ => 0 := by rw [e28]; exact R_335_27
  have R_343_28 : σ28.2.2.2.1 (o + 343) = upd (fun _ => 0) 0 0 := by rw [e28]; exact R_343_27
  have R_354_28 : σ28.2.2.2.1 (o + 354) = upd (fun _ => 0) 0 1 := by rw [e28]; exact R_354_27
  have R_350_28 : σ28.2.2.2.1 (o + 350) = fun _ => 0 := by rw [e28]; exact R_350_27
  have R_361_28 : σ28.2.2.2.1 (o + 361) = fun _ => 0 := by rw [e28]; exact R_361_27
  have G_0_8_28 : σ28.2.2.1 o 8 = some (o + 312) := by rw [e28]; exact g_prS
  clear K_0_27 K_1_27 K_2_27 K_22_27 K_36_27 K_50_27 K_76_27 K_102_27 K_312_27 K_313_27 K_339_27 G_0_0_27 G_0_2_27 G_0_3_27 G_0_4_27 G_0_5_27 G_0_6_27 G_0_7_27 G_312_0_27 G_312_1_27 S_0_27 S_1_27 S_2_27 S_3_27 S_4_27 S_5_27 S_6_27 S_7_27 R_0_27 R_1_27 R_3_27 R_22_27 R_35_27 R_36_27 R_49_27 R_54_27 R_65_27 R_61_27 R_72_27 R_80_27 R_91_27 R_87_27 R_98_27 R_102_27 R_108_27 R_119_27 R_134_27 R_145_27 R_160_27 R_171_27 R_186_27 R_197_27 R_212_27 R_223_27 R_238_27 R_249_27 R_264_27 R_275_27 R_290_27 R_301_27 R_312_27 R_317_27 R_328_27 R_324_27 R_335_27 R_343_27 R_354_27 R_350_27 R_361_27 N_27 T_27 O_27 X_27 e28 σ27
  show RC _ _ _ [some (.ref o)] [] σ28 _
  refine c_aload rfl ?_
  refine c_int ?_
  refine c_newa (t := 2) (z := 2) (by decide) (by decide) (mOut_lt (ltL [o] rfl (List.forall_mem_cons.mpr ⟨by omega, (fun _ h => absurd h List.not_mem_nil)⟩)) (ltS [o] rfl (List.forall_mem_cons.mpr ⟨by omega, (fun _ h => absurd h List.not_mem_nil)⟩))) O_28 ?_
  rw [show ((2 : Int32)).toNatClampNeg = 2 by decide]
  obtain ⟨σ29, e29⟩ : ∃ x, x = mNew σ28 22 2 2 := ⟨_, rfl⟩
  rw [← e29, show σ28.2.1.length = o + 365 by omega]
  have N_29 : σ29.2.1.length = o + 366 := by rw [e29, len_new]; omega
  have T_29 : σ29.1 = σ.1 + 10336 := by rw [e29]; show σ28.1 + 2 = _; omega
  have O_29 : rOK σ29 := by rw [e29]; exact rOK_new O_28
  have X_29 : Ex σ σ29 o := by rw [e29]; exact X_28.new (by omega)
  have K_0_29 : σ29.2.1[o]? = some (9, 0) := by rw [e29]; exact k_new K_0_28
  have K_1_29 : σ29.2.1[o + 1]? = some (21, 700) := by rw [e29]; exact k_new K_1_28
  have K_2_29 : σ29.2.1[o + 2]? = some (5, 0) := by rw [e29]; exact k_new K_2_28
  have K_22_29 : σ29.2.1[o + 22]? = some (4, 0) := by rw [e29]; exact k_new K_22_28
  have K_36_29 : σ29.2.1[o + 36]? = some (4, 0) := by rw [e29]; exact k_new K_36_28
  have K_50_29 : σ29.2.1[o + 50]? = some (8, 0) := by rw [e29]; exact k_new K_50_28
  have K_76_29 : σ29.2.1[o + 76]? = some (8, 0) := by rw [e29]; exact k_new K_76_28
  have K_102_29 : σ29.2.1[o + 102]? = some (1, 0) := by rw [e29]; exact k_new K_102_28
  have K_312_29 : σ29.2.1[o + 312]? = some (26, 2) := by rw [e29]; exact k_new K_312_28
  have K_313_29 : σ29.2.1[o + 313]? = some (8, 0) := by rw [e29]; exact k_new K_313_28
  have K_339_29 : σ29.2.1[o + 339]? = some (8, 0) := by rw [e29]; exact k_new K_339_28
  have G_0_0_29 : σ29.2.2.1 o 0 = some (o + 1) := by rw [e29]; exact g_new (by omega) G_0_0_28
  have G_0_2_29 : σ29.2.2.1 o 2 = some (o + 2) := by rw [e29]; exact g_new (by omega) G_0_2_28
  have G_0_3_29 : σ29.2.2.1 o 3 = some (o + 22) := by rw [e29]; exact g_new (by omega) G_0_3_28
  have G_0_4_29 : σ29.2.2.1 o 4 = some (o + 36) := by rw [e29]; exact g_new (by omega) G_0_4_28
  have G_0_5_29 : σ29.2.2.1 o 5 = some (o + 50) := by rw [e29]; exact g_new (by omega) G_0_5_28
  have G_0_6_29 : σ29.2.2.1 o 6 = some (o + 76) := by rw [e29]; exact g_new (by omega) G_0_6_28
  have G_0_7_29 : σ29.2.2.1 o 7 = some (o + 102) := by rw [e29]; exact g_new (by omega) G_0_7_28
  have G_312_0_29 : σ29.2.2.1 (o + 312) 0 = some (o + 313) := by rw [e29]; exact g_new (by omega) G_312_0_28
  have G_312_1_29 : σ29.2.2.1 (o + 312) 1 = some (o + 339) := by rw [e29]; exact g_new (by omega) G_312_1_28
  have G_0_8_29 : σ29.2.2.1 o 8 = some (o + 312) := by rw [e29]; exact g_new (by omega) G_0_8_28
  have S_0_29 : isRd (mBo σ29) (o + 2) := by rw [e29]; exact isRd_ext S_0_28 (fun q x h => k_new h) (fun q h1 h2 => mup_ne (by omega))
  have S_1_29 : isPrg (mBo σ29) (o + 22) := by rw [e29]; exact isPrg_ext S_1_28 (fun q x h => k_new h) (fun q h1 h2 => mup_ne (by omega))
  have S_2_29 : isPrg (mBo σ29) (o + 36) := by rw [e29]; exact isPrg_ext S_2_28 (fun q x h => k_new h) (fun q h1 h2 => mup_ne (by omega))
  have S_3_29 : isWorld (mBo σ29) (o + 50) := by rw [e29]; exact isWorld_ext S_3_28 (fun q x h => k_new h) (fun q h1 h2 => mup_ne (by omega))
  have S_4_29 : isWorld (mBo σ29) (o + 76) := by rw [e29]; exact isWorld_ext S_4_28 (fun q x h => k_new h) (fun q h1 h2 => mup_ne (by omega))
  have S_5_29 : isHi (mBo σ29) (o + 102) := by rw [e29]; exact isHi_ext S_5_28 (fun q x h => k_new h) (fun q h1 h2 => mup_ne (by omega))
  have S_6_29 : isWorld (mBo σ29) (o + 313) := by rw [e29]; exact isWorld_ext S_6_28 (fun q x h => k_new h) (fun q h1 h2 => mup_ne (by omega))
  have S_7_29 : isWorld (mBo σ29) (o + 339) := by rw [e29]; exact isWorld_ext S_7_28 (fun q x h => k_new h) (fun q h1 h2 => mup_ne (by omega))
  have R_0_29 : σ29.2.2.2.1 o = fun _ => 0 := by rw [e29]; exact (mup_ne (by omega)).trans R_0_28
  have R_1_29 : σ29.2.2.2.1 (o + 1) = fun _ => 0 := by rw [e29]; exact (mup_ne (by omega)).trans R_1_28
  have R_3_29 : σ29.2.2.2.1 (o + 3) = (FX5_init_t (fun _ => 0)).2 := by rw [e29]; exact (mup_ne (by omega)).trans R_3_28
  have R_22_29 : σ29.2.2.2.1 (o + 22) = (FX4_empty (fun _ => 0) (fun _ => 0)).2.1 := by rw [e29]; exact (mup_ne (by omega)).trans R_22_28
  have R_35_29 : σ29.2.2.2.1 (o + 35) = (FX4_empty (fun _ => 0) (fun _ => 0)).2.2 := by rw [e29]; exact (mup_ne (by omega)).trans R_35_28
  have R_36_29 : σ29.2.2.2.1 (o + 36) = (FX4_empty (fun _ => 0) (fun _ => 0)).2.1 := by rw [e29]; exact (mup_ne (by omega)).trans R_36_28
  have R_49_29 : σ29.2.2.2.1 (o + 49) = (FX4_empty (fun _ => 0) (fun _ => 0)).2.2 := by rw [e29]; exact (mup_ne (by omega)).trans R_49_28
  have R_54_29 : σ29.2.2.2.1 (o + 54) = upd (fun _ => 0) 0 0 := by rw [e29]; exact (mup_ne (by omega)).trans R_54_28
  have R_65_29 : σ29.2.2.2.1 (o + 65) = upd (fun _ => 0) 0 1 := by rw [e29]; exact (mup_ne (by omega)).trans R_65_28
  have R_61_29 : σ29.2.2.2.1 (o + 61) = fun _ => 0 := by rw [e29]; exact (mup_ne (by omega)).trans R_61_28
  have R_72_29 : σ29.2.2.2.1 (o + 72) = fun _ => 0 := by rw [e29]; exact (mup_ne (by omega)).trans R_72_28
  have R_80_29 : σ29.2.2.2.1 (o + 80) = upd (fun _ => 0) 0 0 := by rw [e29]; exact (mup_ne (by omega)).trans R_80_28
  have R_91_29 : σ29.2.2.2.1 (o + 91) = upd (fun _ => 0) 0 1 := by rw [e29]; exact (mup_ne (by omega)).trans R_91_28
  have R_87_29 : σ29.2.2.2.1 (o + 87) = fun _ => 0 := by rw [e29]; exact (mup_ne (by omega)).trans R_87_28
  have R_98_29 : σ29.2.2.2.1 (o + 98) = fun _ => 0 := by rw [e29]; exact (mup_ne (by omega)).trans R_98_28
  have R_102_29 : σ29.2.2.2.1 (o + 102) = fun _ => 0 := by rw [e29]; exact (mup_ne (by omega)).trans R_102_28
  have R_108_29 : σ29.2.2.2.1 (o + 108) = upd (fun _ => 0) 0 0 := by rw [e29]; exact (mup_ne (by omega)).trans R_108_28
  have R_119_29 : σ29.2.2.2.1 (o + 119) = upd (fun _ => 0) 0 1 := by rw [e29]; exact (mup_ne (by omega)).trans R_119_28
  have R_134_29 : σ29.2.2.2.1 (o + 134) = upd (fun _ => 0) 0 0 := by rw [e29]; exact (mup_ne (by omega)).trans R_134_28
  have R_145_29 : σ29.2.2.2.1 (o + 145) = upd (fun _ => 0) 0 1 := by rw [e29]; exact (mup_ne (by omega)).trans R_145_28
  have R_160_29 : σ29.2.2.2.1 (o + 160) = upd (fun _ => 0) 0 0 := by rw [e29]; exact (mup_ne (by omega)).trans R_160_28
  have R_171_29 : σ29.2.2.2.1 (o + 171) = upd (fun _ => 0) 0 1 := by rw [e29]; exact (mup_ne (by omega)).trans R_171_28
  have R_186_29 : σ29.2.2.2.1 (o + 186) = upd (fun _ => 0) 0 0 := by rw [e29]; exact (mup_ne (by omega)).trans R_186_28
  have R_197_29 : σ29.2.2.2.1 (o + 197) = upd (fun _ => 0) 0 1 := by rw [e29]; exact (mup_ne (by omega)).trans R_197_28
  have R_212_29 : σ29.2.2.2.1 (o + 212) = upd (fun _ => 0) 0 0 := by rw [e29]; exact (mup_ne (by omega)).trans R_212_28
  have R_223_29 : σ29.2.2.2.1 (o + 223) = upd (fun _ => 0) 0 1 := by rw [e29]; exact (mup_ne (by omega)).trans R_223_28
  have R_238_29 : σ29.2.2.2.1 (o + 238) = upd (fun _ => 0) 0 0 := by rw [e29]; exact (mup_ne (by omega)).trans R_238_28
  have R_249_29 : σ29.2.2.2.1 (o + 249) = upd (fun _ => 0) 0 1 := by rw [e29]; exact (mup_ne (by omega)).trans R_249_28
  have R_264_29 : σ29.2.2.2.1 (o + 264) = upd (fun _ => 0) 0 0 := by rw [e29]; exact (mup_ne (by omega)).trans R_264_28
  have R_275_29 : σ29.2.2.2.1 (o + 275) = upd (fun _ => 0) 0 1 := by rw [e29]; exact (mup_ne (by omega)).trans R_275_28
  have R_290_29 : σ29.2.2.2.1 (o + 290) = upd (fun _ => 0) 0 0 := by rw [e29]; exact (mup_ne (by omega)).trans R_290_28
  have R_301_29 : σ29.2.2.2.1 (o + 301) = upd (fun _ => 0) 0 1 := by rw [e29]; exact (mup_ne (by omega)).trans R_301_28
  have R_312_29 : σ29.2.2.2.1 (o + 312) = fun _ => 0 := by rw [e29]; exact (mup_ne (by omega)).trans R_312_28
  have R_317_29 : σ29.2.2.2.1 (o + 317) = upd (fun _ => 0) 0 0 := by rw [e29]; exact (mup_ne (by omega)).trans R_317_28
  have R_328_29 : σ29.2.2.2.1 (o + 328) = upd (fun _ => 0) 0 1 := by rw [e29]; exact (mup_ne (by omega)).trans R_328_28
  have R_324_29 : σ29.2.2.2.1 (o + 324) = fun _ => 0 := by rw [e29]; exact (mup_ne (by omega)).trans R_324_28
  have R_335_29 : σ29.2.2.2.1 (o + 335) = fun _ => 0 := by rw [e29]; exact (mup_ne (by omega)).trans R_335_28
  have R_343_29 : σ29.2.2.2.1 (o + 343) = upd (fun _ => 0) 0 0 := by rw [e29]; exact (mup_ne (by omega)).trans R_343_28
  have R_354_29 : σ29.2.2.2.1 (o + 354) = upd (fun _ => 0) 0 1 := by rw [e29]; exact (mup_ne (by omega)).trans R_354_28
  have R_350_29 : σ29.2.2.2.1 (o + 350) = fun _ => 0 := by rw [e29]; exact (mup_ne (by omega)).trans R_350_28
  have R_361_29 : σ29.2.2.2.1 (o + 361) = fun _ => 0 := by rw [e29]; exact (mup_ne (by omega)).trans R_361_28
  have K_365_29 : σ29.2.1[o + 365]? = some (22, 2) := by rw [e29, ← show σ28.2.1.length = o + 365 by omega]; exact k_newS
  have R_365_29 : σ29.2.2.2.1 (o + 365) = fun _ => 0 := by rw [e29, ← show σ28.2.1.length = o + 365 by omega]; exact mup_eq
  clear K_0_28 K_1_28 K_2_28 K_22_28 K_36_28 K_50_28 K_76_28 K_102_28 K_312_28 K_313_28 K_339_28 G_0_0_28 G_0_2_28 G_0_3_28 G_0_4_28 G_0_5_28 G_0_6_28 G_0_7_28 G_312_0_28 G_312_1_28 G_0_8_28 S_0_28 S_1_28 S_2_28 S_3_28 S_4_28 S_5_28 S_6_28 S_7_28 R_0_28 R_1_28 R_3_28 R_22_28 R_35_28 R_36_28 R_49_28 R_54_28 R_65_28 R_61_28 R_72_28 R_80_28 R_91_28 R_87_28 R_98_28 R_102_28 R_108_28 R_119_28 R_134_28 R_145_28 R_160_28 R_171_28 R_186_28 R_197_28 R_212_28 R_223_28 R_238_28 R_249_28 R_264_28 R_275_28 R_290_28 R_301_28 R_312_28 R_317_28 R_328_28 R_324_28 R_335_28 R_343_28 R_354_28 R_350_28 R_361_28 N_28 T_28 O_28 X_28 e29 σ28
  show RC _ _ _ [some (.ref o)] [.ref (o + 365), .ref o] σ29 _
  refine c_putr K_0_29 ?_
  obtain ⟨σ30, e30⟩ : ∃ x, x = mPr σ29 o 9 (some (o + 365)) := ⟨_, rfl⟩
  rw [← e30]
  have N_30 : σ30.2.1.length = o + 366 := by rw [e30]; exact N_29
  have T_30 : σ30.1 = σ.1 + 10336 := by rw [e30]; exact T_29
  have O_30 : rOK σ30 := by rw [e30]; exact rOK_pr O_29 (by omega)
  have X_30 : Ex σ σ30 o := by rw [e30]; exact X_29.pr (by omega)
  have K_0_30 : σ30.2.1[o]? = some (9, 0) := by rw [e30]; exact K_0_29
  have K_1_30 : σ30.2.1[o + 1]? = some (21, 700) := by rw [e30]; exact K_1_29
  have K_2_30 : σ30.2.1[o + 2]? = some (5, 0) := by rw [e30]; exact K_2_29
  have K_22_30 : σ30.2.1[o + 22]? = some (4, 0) := by rw [e30]; exact K_22_29
  have K_36_30 : σ30.2.1[o + 36]? = some (4, 0) := by rw [e30]; exact K_36_29
  have K_50_30 : σ30.2.1[o + 50]? = some (8, 0) := by rw [e30]; exact K_50_29
  have K_76_30 : σ30.2.1[o + 76]? = some (8, 0) := by rw [e30]; exact K_76_29
  have K_102_30 : σ30.2.1[o + 102]? = some (1, 0) := by rw [e30]; exact K_102_29
  have K_312_30 : σ30.2.1[o + 312]? = some (26, 2) := by rw [e30]; exact K_312_29
  have K_313_30 : σ30.2.1[o + 313]? = some (8, 0) := by rw [e30]; exact K_313_29
  have K_339_30 : σ30.2.1[o + 339]? = some (8, 0) := by rw [e30]; exact K_339_29
  have K_365_30 : σ30.2.1[o + 365]? = some (22, 2) := by rw [e30]; exact K_365_29
  have G_0_0_30 : σ30.2.2.1 o 0 = some (o + 1) := by rw [e30]; exact g_prK (by decide) G_0_0_29
  have G_0_2_30 : σ30.2.2.1 o 2 = some (o + 2) := by rw [e30]; exact g_prK (by decide) G_0_2_29
  have G_0_3_30 : σ30.2.2.1 o 3 = some (o + 22) := by rw [e30]; exact g_prK (by decide) G_0_3_29
  have G_0_4_30 : σ30.2.2.1 o 4 = some (o + 36) := by rw [e30]; exact g_prK (by decide) G_0_4_29
  have G_0_5_30 : σ30.2.2.1 o 5 = some (o + 50) := by rw [e30]; exact g_prK (by decide) G_0_5_29
  have G_0_6_30 : σ30.2.2.1 o 6 = some (o + 76) := by rw [e30]; exact g_prK (by decide) G_0_6_29
  have G_0_7_30 : σ30.2.2.1 o 7 = some (o + 102) := by rw [e30]; exact g_prK (by decide) G_0_7_29
  have G_312_0_30 : σ30.2.2.1 (o + 312) 0 = some (o + 313) := by rw [e30]; exact g_prO (by omega) G_312_0_29
  have G_312_1_30 : σ30.2.2.1 (o + 312) 1 = some (o + 339) := by rw [e30]; exact g_prO (by omega) G_312_1_29
  have G_0_8_30 : σ30.2.2.1 o 8 = some (o + 312) := by rw [e30]; exact g_prK (by decide) G_0_8_29
  have S_0_30 : isRd (mBo σ30) (o + 2) := by rw [e30]; exact isRd_ext S_0_29 (fun q x h => h) (fun q h1 h2 => mup_ne (by omega))
  have S_1_30 : isPrg (mBo σ30) (o + 22) := by rw [e30]; exact isPrg_ext S_1_29 (fun q x h => h) (fun q h1 h2 => mup_ne (by omega))
  have S_2_30 : isPrg (mBo σ30) (o + 36) := by rw [e30]; exact isPrg_ext S_2_29 (fun q x h => h) (fun q h1 h2 => mup_ne (by omega))
  have S_3_30 : isWorld (mBo σ30) (o + 50) := by rw [e30]; exact isWorld_ext S_3_29 (fun q x h => h) (fun q h1 h2 => mup_ne (by omega))
  have S_4_30 : isWorld (mBo σ30) (o + 76) := by rw [e30]; exact isWorld_ext S_4_29 (fun q x h => h) (fun q h1 h2 => mup_ne (by omega))
  have S_5_30 : isHi (mBo σ30) (o + 102) := by rw [e30]; exact isHi_ext S_5_29 (fun q x h => h) (fun q h1 h2 => mup_ne (by omega))
  have S_6_30 : isWorld (mBo σ30) (o + 313) := by rw [e30]; exact isWorld_ext S_6_29 (fun q x h => h) (fun q h1 h2 => mup_ne (by omega))
  have S_7_30 : isWorld (mBo σ30) (o + 339) := by rw [e30]; exact isWorld_ext S_7_29 (fun q x h => h) (fun q h1 h2 => mup_ne (by omega))
  have R_0_30 : σ30.2.2.2.1 o = fun _ => 0 := by rw [e30]; exact R_0_29
  have R_1_30 : σ30.2.2.2.1 (o + 1) = fun _ => 0 := by rw [e30]; exact R_1_29
  have R_3_30 : σ30.2.2.2.1 (o + 3) = (FX5_init_t (fun _ => 0)).2 := by rw [e30]; exact R_3_29
  have R_22_30 : σ30.2.2.2.1 (o + 22) = (FX4_empty (fun _ => 0) (fun _ => 0)).2.1 := by rw [e30]; exact R_22_29
  have R_35_30 : σ30.2.2.2.1 (o + 35) = (FX4_empty (fun _ => 0) (fun _ => 0)).2.2 := by rw [e30]; exact R_35_29
  have R_36_30 : σ30.2.2.2.1 (o + 36) = (FX4_empty (fun _ => 0) (fun _ => 0)).2.1 := by rw [e30]; exact R_36_29
  have R_49_30 : σ30.2.2.2.1 (o + 49) = (FX4_empty (fun _ => 0) (fun _ => 0)).2.2 := by rw [e30]; exact R_49_29
  have R_54_30 : σ30.2.2.2.1 (o + 54) = upd (fun _ => 0) 0 0 := by rw [e30]; exact R_54_29
  have R_65_30 : σ30.2.2.2.1 (o + 65) = upd (fun _ => 0) 0 1 := by rw [e30]; exact R_65_29
  have R_61_30 : σ30.2.2.2.1 (o + 61) = fun _ => 0 := by rw [e30]; exact R_61_29
  have R_72_30 : σ30.2.2.2.1 (o + 72) = fun _ => 0 := by rw [e30]; exact R_72_29
  have R_80_30 : σ30.2.2.2.1 (o + 80) = upd (fun _ => 0) 0 0 := by rw [e30]; exact R_80_29
  have R_91_30 : σ30.2.2.2.1 (o + 91) = upd (fun _ => 0) 0 1 := by rw [e30]; exact R_91_29
  have R_87_30 : σ30.2.2.2.1 (o + 87) = fun _ => 0 := by rw [e30]; exact R_87_29
  have R_98_30 : σ30.2.2.2.1 (o + 98) = fun _ => 0 := by rw [e30]; exact R_98_29
  have R_102_30 : σ30.2.2.2.1 (o + 102) = fun _ => 0 := by rw [e30]; exact R_102_29
  have R_108_30 : σ30.2.2.2.1 (o + 108) = upd (fun _ => 0) 0 0 := by rw [e30]; exact R_108_29
  have R_119_30 : σ30.2.2.2.1 (o + 119) = upd (fun _ => 0) 0 1 := by rw [e30]; exact R_119_29
  have R_134_30 : σ30.2.2.2.1 (o + 134) = upd (fun _ => 0) 0 0 := by rw [e30]; exact R_134_29
  have R_145_30 : σ30.2.2.2.1 (o + 145) = upd (fun _ => 0) 0 1 := by rw [e30]; exact R_145_29
  have R_160_30 : σ30.2.2.2.1 (o + 160) = upd (fun _ => 0) 0 0 := by rw [e30]; exact R_160_29
  have R_171_30 : σ30.2.2.2.1 (o + 171) = upd (fun _ => 0) 0 1 := by rw [e30]; exact R_171_29
  have R_186_30 : σ30.2.2.2.1 (o + 186) = upd (fun _ => 0) 0 0 := by rw [e30]; exact R_186_29
  have R_197_30 : σ30.2.2.2.1 (o + 197) = upd (fun _ => 0) 0 1 := by rw [e30]; exact R_197_29
  have R_212_30 : σ30.2.2.2.1 (o + 212) = upd (fun _ => 0) 0 0 := by rw [e30]; exact R_212_29
  have R_223_30 : σ30.2.2.2.1 (o + 223) = upd (fun _ => 0) 0 1 := by rw [e30]; exact R_223_29
  have R_238_30 : σ30.2.2.2.1 (o + 238) = upd (fun _ => 0) 0 0 := by rw [e30]; exact R_238_29
  have R_249_30 : σ30.2.2.2.1 (o + 249) = upd (fun _ => 0) 0 1 := by rw [e30]; exact R_249_29
  have R_264_30 : σ30.2.2.2.1 (o + 264) = upd (fun _ => 0) 0 0 := by rw [e30]; exact R_264_29
  have R_275_30 : σ30.2.2.2.1 (o + 275) = upd (fun _ => 0) 0 1 := by rw [e30]; exact R_275_29
  have R_290_30 : σ30.2.2.2.1 (o + 290) = upd (fun _ => 0) 0 0 := by rw [e30]; exact R_290_29
  have R_301_30 : σ30.2.2.2.1 (o + 301) = upd (fun _ => 0) 0 1 := by rw [e30]; exact R_301_29
  have R_312_30 : σ30.2.2.2.1 (o + 312) = fun _ => 0 := by rw [e30]; exact R_312_29
  have R_317_30 : σ30.2.2.2.1 (o + 317) = upd (fun _ => 0) 0 0 := by rw [e30]; exact R_317_29
  have R_328_30 : σ30.2.2.2.1 (o + 328) = upd (fun _ => 0) 0 1 := by rw [e30]; exact R_328_29
  have R_324_30 : σ30.2.2.2.1 (o + 324) = fun _ => 0 := by rw [e30]; exact R_324_29
  have R_335_30 : σ30.2.2.2.1 (o + 335) = fun _ => 0 := by rw [e30]; exact R_335_29
  have R_343_30 : σ30.2.2.2.1 (o + 343) = upd (fun _ => 0) 0 0 := by rw [e30]; exact R_343_29
  have R_354_30 : σ30.2.2.2.1 (o + 354) = upd (fun _ => 0) 0 1 := by rw [e30]; exact R_354_29
  have R_350_30 : σ30.2.2.2.1 (o + 350) = fun _ => 0 := by rw [e30]; exact R_350_29
  have R_361_30 : σ30.2.2.2.1 (o + 361) = fun _ => 0 := by rw [e30]; exact R_361_29
  have R_365_30 : σ30.2.2.2.1 (o + 365) = fun _ => 0 := by rw [e30]; exact R_365_29
  have G_0_9_30 : σ30.2.2.1 o 9 = some (o + 365) := by rw [e30]; exact g_prS
  clear K_0_29 K_1_29 K_2_29 K_22_29 K_36_29 K_50_29 K_76_29 K_102_29 K_312_29 K_313_29 K_339_29 K_365_29 G_0_0_29 G_0_2_29 G_0_3_29 G_0_4_29 G_0_5_29 G_0_6_29 G_0_7_29 G_312_0_29 G_312_1_29 G_0_8_29 S_0_29 S_1_29 S_2_29 S_3_29 S_4_29 S_5_29 S_6_29 S_7_29 R_0_29 R_1_29 R_3_29 R_22_29 R_35_29 R_36_29 R_49_29 R_54_29 R_65_29 R_61_29 R_72_29 R_80_29 R_91_29 R_87_29 R_98_29 R_102_29 R_108_29 R_119_29 R_134_29 R_145_29 R_160_29 R_171_29 R_186_29 R_197_29 R_212_29 R_223_29 R_238_29 R_249_29 R_264_29 R_275_29 R_290_29 R_301_29 R_312_29 R_317_29 R_328_29 R_324_29 R_335_29 R_343_29 R_354_29 R_350_29 R_361_29 R_365_29 N_29 T_29 O_29 X_29 e30 σ29
  show RC _ _ _ [some (.ref o)] [] σ30 _
  refine c_aload rfl ?_
  refine c_new (k := 7) (mOut_lt (ltL [o] rfl (List.forall_mem_cons.mpr ⟨by omega, (fun _ h => absurd h List.not_mem_nil)⟩)) (ltS [o] rfl (List.forall_mem_cons.mpr ⟨by omega, (fun _ h => absurd h List.not_mem_nil)⟩))) O_30 ?_
  obtain ⟨σ31, e31⟩ : ∃ x, x = mNew σ30 7 0 (mFt.getD 7 []).length := ⟨_, rfl⟩
  rw [← e31, show σ30.2.1.length = o + 366 by omega]
  have N_31 : σ31.2.1.length = o + 367 := by rw [e31, len_new]; omega
  have T_31 : σ31.1 = σ.1 + 10341 := by rw [e31]; show σ30.1 + 5 = _; omega
  have O_31 : rOK σ31 := by rw [e31]; exact rOK_new O_30
  have X_31 : Ex σ σ31 o := by rw [e31]; exact X_30.new (by omega)
  have K_0_31 : σ31.2.1[o]? = some (9, 0) := by rw [e31]; exact k_new K_0_30
  have K_1_31 : σ31.2.1[o + 1]? = some (21, 700) := by rw [e31]; exact k_new K_1_30
  have K_2_31 : σ31.2.1[o + 2]? = some (5, 0) := by rw [e31]; exact k_new K_2_30
  have K_22_31 : σ31.2.1[o + 22]? = some (4, 0) := by rw [e31]; exact k_new K_22_30
  have K_36_31 : σ31.2.1[o + 36]? = some (4, 0) := by rw [e31]; exact k_new K_36_30
  have K_50_31 : σ31.2.1[o + 50]? = some (8, 0) := by rw [e31]; exact k_new K_50_30
  have K_76_31 : σ31.2.1[o + 76]? = some (8, 0) := by rw [e31]; exact k_new K_76_30
  have K_102_31 : σ31.2.1[o + 102]? = some (1, 0) := by rw [e31]; exact k_new K_102_30
  have K_312_31 : σ31.2.1[o + 312]? = some (26, 2) := by rw [e31]; exact k_new K_312_30
  have K_313_31 : σ31.2.1[o + 313]? = some (8, 0) := by rw [e31]; exact k_new K_313_30
  have K_339_31 : σ31.2.1[o + 339]? = some (8, 0) := by rw [e31]; exact k_new K_339_30
  have K_365_31 : σ31.2.1[o + 365]? = some (22, 2) := by rw [e31]; exact k_new K_365_30
  have G_0_0_31 : σ31.2.2.1 o 0 = some (o + 1) := by rw [e31]; exact g_new (by omega) G_0_0_30
  have G_0_2_31 : σ31.2.2.1 o 2 = some (o + 2) := by rw [e31]; exact g_new (by omega) G_0_2_30
  have G_0_3_31 : σ31.2.2.1 o 3 = some (o + 22) := by rw [e31]; exact g_new (by omega) G_0_3_30
  have G_0_4_31 : σ31.2.2.1 o 4 = some (o + 36) := by rw [e31]; exact g_new (by omega) G_0_4_30
  have G_0_5_31 : σ31.2.2.1 o 5 = some (o + 50) := by rw [e31]; exact g_new (by omega) G_0_5_30
  have G_0_6_31 : σ31.2.2.1 o 6 = some (o + 76) := by rw [e31]; exact g_new (by omega) G_0_6_30
  have G_0_7_31 : σ31.2.2.1 o 7 = some (o + 102) := by rw [e31]; exact g_new (by omega) G_0_7_30
  have G_312_0_31 : σ31.2.2.1 (o + 312) 0 = some (o + 313) := by rw [e31]; exact g_new (by omega) G_312_0_30
  have G_312_1_31 : σ31.2.2.1 (o + 312) 1 = some (o + 339) := by rw [e31]; exact g_new (by omega) G_312_1_30
  have G_0_8_31 : σ31.2.2.1 o 8 = some (o + 312) := by rw [e31]; exact g_new (by omega) G_0_8_30
  have G_0_9_31 : σ31.2.2.1 o 9 = some (o + 365) := by rw [e31]; exact g_new (by omega) G_0_9_30
  have S_0_31 : isRd (mBo σ31) (o + 2) := by rw [e31]; exact isRd_ext S_0_30 (fun q x h => k_new h) (fun q h1 h2 => mup_ne (by omega))
  have S_1_31 : isPrg (mBo σ31) (o + 22) := by rw [e31]; exact isPrg_ext S_1_30 (fun q x h => k_new h) (fun q h1 h2 => mup_ne (by omega))
  have S_2_31 : isPrg (mBo σ31) (o + 36) := by rw [e31]; exact isPrg_ext S_2_30 (fun q x h => k_new h) (fun q h1 h2 => mup_ne (by omega))
  have S_3_31 : isWorld (mBo σ31) (o + 50) := by rw [e31]; exact isWorld_ext S_3_30 (fun q x h => k_new h) (fun q h1 h2 => mup_ne (by omega))
  have S_4_31 : isWorld (mBo σ31) (o + 76) := by rw [e31]; exact isWorld_ext S_4_30 (fun q x h => k_new h) (fun q h1 h2 => mup_ne (by omega))
  have S_5_31 : isHi (mBo σ31) (o + 102) := by rw [e31]; exact isHi_ext S_5_30 (fun q x h => k_new h) (fun q h1 h2 => mup_ne (by omega))
  have S_6_31 : isWorld (mBo σ31) (o + 313) := by rw [e31]; exact isWorld_ext S_6_30 (fun q x h => k_new h) (fun q h1 h2 => mup_ne (by omega))
  have S_7_31 : isWorld (mBo σ31) (o + 339) := by rw [e31]; exact isWorld_ext S_7_30 (fun q x h => k_new h) (fun q h1 h2 => mup_ne (by omega))
  have R_0_31 : σ31.2.2.2.1 o = fun _ => 0 := by rw [e31]; exact (mup_ne (by omega)).trans R_0_30
  have R_1_31 : σ31.2.2.2.1 (o + 1) = fun _ => 0 := by rw [e31]; exact (mup_ne (by omega)).trans R_1_30
  have R_3_31 : σ31.2.2.2.1 (o + 3) = (FX5_init_t (fun _ => 0)).2 := by rw [e31]; exact (mup_ne (by omega)).trans R_3_30
  have R_22_31 : σ31.2.2.2.1 (o + 22) = (FX4_empty (fun _ => 0) (fun _ => 0)).2.1 := by rw [e31]; exact (mup_ne (by omega)).trans R_22_30
  have R_35_31 : σ31.2.2.2.1 (o + 35) = (FX4_empty (fun _ => 0) (fun _ => 0)).2.2 := by rw [e31]; exact (mup_ne (by omega)).trans R_35_30
  have R_36_31 : σ31.2.2.2.1 (o + 36) = (FX4_empty (fun _ => 0) (fun _ => 0)).2.1 := by rw [e31]; exact (mup_ne (by omega)).trans R_36_30
  have R_49_31 : σ31.2.2.2.1 (o + 49) = (FX4_empty (fun _ => 0) (fun _ => 0)).2.2 := by rw [e31]; exact (mup_ne (by omega)).trans R_49_30
  have R_54_31 : σ31.2.2.2.1 (o + 54) = upd (fun _ => 0) 0 0 := by rw [e31]; exact (mup_ne (by omega)).trans R_54_30
  have R_65_31 : σ31.2.2.2.1 (o + 65) = upd (fun _ => 0) 0 1 := by rw [e31]; exact (mup_ne (by omega)).trans R_65_30
  have R_61_31 : σ31.2.2.2.1 (o + 61) = fun _ => 0 := by rw [e31]; exact (mup_ne (by omega)).trans R_61_30
  have R_72_31 : σ31.2.2.2.1 (o + 72) = fun _ => 0 := by rw [e31]; exact (mup_ne (by omega)).trans R_72_30
  have R_80_31 : σ31.2.2.2.1 (o + 80) = upd (fun _ => 0) 0 0 := by rw [e31]; exact (mup_ne (by omega)).trans R_80_30
  have R_91_31 : σ31.2.2.2.1 (o + 91) = upd (fun _ => 0) 0 1 := by rw [e31]; exact (mup_ne (by omega)).trans R_91_30
  have R_87_31 : σ31.2.2.2.1 (o + 87) = fun _ => 0 := by rw [e31]; exact (mup_ne (by omega)).trans R_87_30
  have R_98_31 : σ31.2.2.2.1 (o + 98) = fun _ => 0 := by rw [e31]; exact (mup_ne (by omega)).trans R_98_30
  have R_102_31 : σ31.2.2.2.1 (o + 102) = fun _ => 0 := by rw [e31]; exact (mup_ne (by omega)).trans R_102_30
  have R_108_31 : σ31.2.2.2.1 (o + 108) = upd (fun _ => 0) 0 0 := by rw [e31]; exact (mup_ne (by omega)).trans R_108_30
  have R_119_31 : σ31.2.2.2.1 (o + 119) = upd (fun _ => 0) 0 1 := by rw [e31]; exact (mup_ne (by omega)).trans R_119_30
  have R_134_31 : σ31.2.2.2.1 (o + 134) = upd (fun _ => 0) 0 0 := by rw [e31]; exact (mup_ne (by omega)).trans R_134_30
  have R_145_31 : σ31.2.2.2.1 (o + 145) = upd (fun _ => 0) 0 1 := by rw [e31]; exact (mup_ne (by omega)).trans R_145_30
  have R_160_31 : σ31.2.2.2.1 (o + 160) = upd (fun _ => 0) 0 0 := by rw [e31]; exact (mup_ne (by omega)).trans R_160_30
  have R_171_31 : σ31.2.2.2.1 (o + 171) = upd (fun _ => 0) 0 1 := by rw [e31]; exact (mup_ne (by omega)).trans R_171_30
  have R_186_31 : σ31.2.2.2.1 (o + 186) = upd (fun _ => 0) 0 0 := by rw [e31]; exact (mup_ne (by omega)).trans R_186_30
  have R_197_31 : σ31.2.2.2.1 (o + 197) = upd (fun _ => 0) 0 1 := by rw [e31]; exact (mup_ne (by omega)).trans R_197_30
  have R_212_31 : σ31.2.2.2.1 (o + 212) = upd (fun _ => 0) 0 0 := by rw [e31]; exact (mup_ne (by omega)).trans R_212_30
  have R_223_31 : σ31.2.2.2.1 (o + 223) = upd (fun _ => 0) 0 1 := by rw [e31]; exact (mup_ne (by omega)).trans R_223_30
  have R_238_31 : σ31.2.2.2.1 (o + 238) = upd (fun _ => 0) 0 0 := by rw [e31]; exact (mup_ne (by omega)).trans R_238_30
  have R_249_31 : σ31.2.2.2.1 (o + 249) = upd (fun _ => 0) 0 1 := by rw [e31]; exact (mup_ne (by omega)).trans R_249_30
  have R_264_31 : σ31.2.2.2.1 (o + 264) = upd (fun _ => 0) 0 0 := by rw [e31]; exact (mup_ne (by omega)).trans R_264_30
  have R_275_31 : σ31.2.2.2.1 (o + 275) = upd (fun _ => 0) 0 1 := by rw [e31]; exact (mup_ne (by omega)).trans R_275_30
  have R_290_31 : σ31.2.2.2.1 (o + 290) = upd (fun _ => 0) 0 0 := by rw [e31]; exact (mup_ne (by omega)).trans R_290_30
  have R_301_31 : σ31.2.2.2.1 (o + 301) = upd (fun _ => 0) 0 1 := by rw [e31]; exact (mup_ne (by omega)).trans R_301_30
  have R_312_31 : σ31.2.2.2.1 (o + 312) = fun _ => 0 := by rw [e31]; exact (mup_ne (by omega)).trans R_312_30
  have R_317_31 : σ31.2.2.2.1 (o + 317) = upd (fun _ => 0) 0 0 := by rw [e31]; exact (mup_ne (by omega)).trans R_317_30
  have R_328_31 : σ31.2.2.2.1 (o + 328) = upd (fun _ => 0) 0 1 := by rw [e31]; exact (mup_ne (by omega)).trans R_328_30
  have R_324_31 : σ31.2.2.2.1 (o + 324) = fun _ => 0 := by rw [e31]; exact (mup_ne (by omega)).trans R_324_30
  have R_335_31 : σ31.2.2.2.1 (o + 335) = fun _ => 0 := by rw [e31]; exact (mup_ne (by omega)).trans R_335_30
  have R_343_31 : σ31.2.2.2.1 (o + 343) = upd (fun _ => 0) 0 0 := by rw [e31]; exact (mup_ne (by omega)).trans R_343_30
  have R_354_31 : σ31.2.2.2.1 (o + 354) = upd (fun _ => 0) 0 1 := by rw [e31]; exact (mup_ne (by omega)).trans R_354_30
  have R_350_31 : σ31.2.2.2.1 (o + 350) = fun _ => 0 := by rw [e31]; exact (mup_ne (by omega)).trans R_350_30
  have R_361_31 : σ31.2.2.2.1 (o + 361) = fun _ => 0 := by rw [e31]; exact (mup_ne (by omega)).trans R_361_30
  have R_365_31 : σ31.2.2.2.1 (o + 365) = fun _ => 0 := by rw [e31]; exact (mup_ne (by omega)).trans R_365_30
  have K_366_31 : σ31.2.1[o + 366]? = some (7, 0) := by rw [e31, ← show σ30.2.1.length = o + 366 by omega]; exact k_newS
  have R_366_31 : σ31.2.2.2.1 (o + 366) = fun _ => 0 := by rw [e31, ← show σ30.2.1.length = o + 366 by omega]; exact mup_eq
  clear K_0_30 K_1_30 K_2_30 K_22_30 K_36_30 K_50_30 K_76_30 K_102_30 K_312_30 K_313_30 K_339_30 K_365_30 G_0_0_30 G_0_2_30 G_0_3_30 G_0_4_30 G_0_5_30 G_0_6_30 G_0_7_30 G_312_0_30 G_312_1_30 G_0_8_30 G_0_9_30 S_0_30 S_1_30 S_2_30 S_3_30 S_4_30 S_5_30 S_6_30 S_7_30 R_0_30 R_1_30 R_3_30 R_22_30 R_35_30 R_36_30 R_49_30 R_54_30 R_65_30 R_61_30 R_72_30 R_80_30 R_91_30 R_87_30 R_98_30 R_102_30 R_108_30 R_119_30 R_134_30 R_145_30 R_160_30 R_171_30 R_186_30 R_197_30 R_212_30 R_223_30 R_238_30 R_249_30 R_264_30 R_275_30 R_290_30 R_301_30 R_312_30 R_317_30 R_328_30 R_324_30 R_335_30 R_343_30 R_354_30 R_350_30 R_361_30 R_365_30 N_30 T_30 O_30 X_30 e31 σ30
  show RC _ _ _ [some (.ref o)] [.ref (o + 366), .ref o] σ31 _
  refine c_dup rfl ?_
  refine c_call (o := o + 366) (as := []) (st := [.ref (o + 366), .ref o]) (rfl) rfl (Nat.le_of_ble_eq_true rfl) (Or.inr rfl) (ltL [o] rfl (List.forall_mem_cons.mpr ⟨by omega, (fun _ h => absurd h List.not_mem_nil)⟩)) (ltS [o + 366, o] rfl (List.forall_mem_cons.mpr ⟨by omega, (List.forall_mem_cons.mpr ⟨by omega, (fun _ h => absurd h List.not_mem_nil)⟩)⟩)) (nY7_init (by omega) O_31 R_366_31 K_366_31 (by omega)) (fun σ32 Z_32 => ?_)
  obtain ⟨E_32, NN_32, TT_32, O_32, Y0_32⟩ := Z_32
  have N_32 : σ32.2.1.length = o + 370 := by omega
  have T_32 : σ32.1 = σ.1 + 10641 := by omega
  have X_32 : Ex σ σ32 o := X_31.call E_32 (by omega)
  have K_0_32 : σ32.2.1[o]? = some (9, 0) := E_32.1 _ _ K_0_31
  have K_1_32 : σ32.2.1[o + 1]? = some (21, 700) := E_32.1 _ _ K_1_31
  have K_2_32 : σ32.2.1[o + 2]? = some (5, 0) := E_32.1 _ _ K_2_31
  have K_22_32 : σ32.2.1[o + 22]? = some (4, 0) := E_32.1 _ _ K_22_31
  have K_36_32 : σ32.2.1[o + 36]? = some (4, 0) := E_32.1 _ _ K_36_31
  have K_50_32 : σ32.2.1[o + 50]? = some (8, 0) := E_32.1 _ _ K_50_31
  have K_76_32 : σ32.2.1[o + 76]? = some (8, 0) := E_32.1 _ _ K_76_31
  have K_102_32 : σ32.2.1[o + 102]? = some (1, 0) := E_32.1 _ _ K_102_31
  have K_312_32 : σ32.2.1[o + 312]? = some (26, 2) := E_32.1 _ _ K_312_31
  have K_313_32 : σ32.2.1[o + 313]? = some (8, 0) := E_32.1 _ _ K_313_31
  have K_339_32 : σ32.2.1[o + 339]? = some (8, 0) := E_32.1 _ _ K_339_31
  have K_365_32 : σ32.2.1[o + 365]? = some (22, 2) := E_32.1 _ _ K_365_31
  have K_366_32 : σ32.2.1[o + 366]? = some (7, 0) := E_32.1 _ _ K_366_31
  have G_0_0_32 : σ32.2.2.1 o 0 = some (o + 1) := by rw [(E_32.2 _ (by omega) (by omega)).1]; exact G_0_0_31
  have G_0_2_32 : σ32.2.2.1 o 2 = some (o + 2) := by rw [(E_32.2 _ (by omega) (by omega)).1]; exact G_0_2_31
  have G_0_3_32 : σ32.2.2.1 o 3 = some (o + 22) := by rw [(E_32.2 _ (by omega) (by omega)).1]; exact G_0_3_31
  have G_0_4_32 : σ32.2.2.1 o 4 = some (o + 36) := by rw [(E_32.2 _ (by omega) (by omega)).1]; exact G_0_4_31
  have G_0_5_32 : σ32.2.2.1 o 5 = some (o + 50) := by rw [(E_32.2 _ (by omega) (by omega)).1]; exact G_0_5_31
  have G_0_6_32 : σ32.2.2.1 o 6 = some (o + 76) := by rw [(E_32.2 _ (by omega) (by omega)).1]; exact G_0_6_31
  have G_0_7_32 : σ32.2.2.1 o 7 = some (o + 102) := by rw [(E_32.2 _ (by omega) (by omega)).1]; exact G_0_7_31
  have G_312_0_32 : σ32.2.2.1 (o + 312) 0 = some (o + 313) := by rw [(E_32.2 _ (by omega) (by omega)).1]; exact G_312_0_31
  have G_312_1_32 : σ32.2.2.1 (o + 312) 1 = some (o + 339) := by rw [(E_32.2 _ (by omega) (by omega)).1]; exact G_312_1_31
  have G_0_8_32 : σ32.2.2.1 o 8 = some (o + 312) := by rw [(E_32.2 _ (by omega) (by omega)).1]; exact G_0_8_31
  have G_0_9_32 : σ32.2.2.1 o 9 = some (o + 365) := by rw [(E_32.2 _ (by omega) (by omega)).1]; exact G_0_9_31
  have S_0_32 : isRd (mBo σ32) (o + 2) := isRd_ext S_0_31 E_32.1 (fun q h1 h2 => (E_32.2 q (by omega) (by omega)).1)
  have S_1_32 : isPrg (mBo σ32) (o + 22) := isPrg_ext S_1_31 E_32.1 (fun q h1 h2 => (E_32.2 q (by omega) (by omega)).1)
  have S_2_32 : isPrg (mBo σ32) (o + 36) := isPrg_ext S_2_31 E_32.1 (fun q h1 h2 => (E_32.2 q (by omega) (by omega)).1)
  have S_3_32 : isWorld (mBo σ32) (o + 50) := isWorld_ext S_3_31 E_32.1 (fun q h1 h2 => (E_32.2 q (by omega) (by omega)).1)
  have S_4_32 : isWorld (mBo σ32) (o + 76) := isWorld_ext S_4_31 E_32.1 (fun q h1 h2 => (E_32.2 q (by omega) (by omega)).1)
  have S_5_32 : isHi (mBo σ32) (o + 102) := isHi_ext S_5_31 E_32.1 (fun q h1 h2 => (E_32.2 q (by omega) (by omega)).1)
  have S_6_32 : isWorld (mBo σ32) (o + 313) := isWorld_ext S_6_31 E_32.1 (fun q h1 h2 => (E_32.2 q (by omega) (by omega)).1)
  have S_7_32 : isWorld (mBo σ32) (o + 339) := isWorld_ext S_7_31 E_32.1 (fun q h1 h2 => (E_32.2 q (by omega) (by omega)).1)
  have R_0_32 : σ32.2.2.2.1 o = fun _ => 0 := by rw [(E_32.2 _ (by omega) (by omega)).2.1]; exact R_0_31
  have R_1_32 : σ32.2.2.2.1 (o + 1) = fun _ => 0 := by rw [(E_32.2 _ (by omega) (by omega)).2.1]; exact R_1_31
  have R_3_32 : σ32.2.2.2.1 (o + 3) = (FX5_init_t (fun _ => 0)).2 := by rw [(E_32.2 _ (by omega) (by omega)).2.1]; exact R_3_31
  have R_22_32 : σ32.2.2.2.1 (o + 22) = (FX4_empty (fun _ => 0) (fun _ => 0)).2.1 := by rw [(E_32.2 _ (by omega) (by omega)).2.1]; exact R_22_31
  have R_35_32 : σ32.2.2.2.1 (o + 35) = (FX4_empty (fun _ => 0) (fun _ => 0)).2.2 := by rw [(E_32.2 _ (by omega) (by omega)).2.1]; exact R_35_31
  have R_36_32 : σ32.2.2.2.1 (o + 36) = (FX4_empty (fun _ => 0) (fun _ => 0)).2.1 := by rw [(E_32.2 _ (by omega) (by omega)).2.1]; exact R_36_31
  have R_49_32 : σ32.2.2.2.1 (o + 49) = (FX4_empty (fun _ => 0) (fun _ => 0)).2.2 := by rw [(E_32.2 _ (by omega) (by omega)).2.1]; exact R_49_31
  have R_54_32 : σ32.2.2.2.1 (o + 54) = upd (fun _ => 0) 0 0 := by rw [(E_32.2 _ (by omega) (by omega)).2.1]; exact R_54_31
  have R_65_32 : σ32.2.2.2.1 (o + 65) = upd (fun _ => 0) 0 1 := by rw [(E_32.2 _ (by omega) (by omega)).2.1]; exact R_65_31
  have R_61_32 : σ32.2.2.2.1 (o + 61) = fun _ => 0 := by rw [(E_32.2 _ (by omega) (by omega)).2.1]; exact R_61_31
  have R_72_32 : σ32.2.2.2.1 (o + 72) = fun _ => 0 := by rw [(E_32.2 _ (by omega) (by omega)).2.1]; exact R_72_31
  have R_80_32 : σ32.2.2.2.1 (o + 80) = upd (fun _ => 0) 0 0 := by rw [(E_32.2 _ (by omega) (by omega)).2.1]; exact R_80_31
  have R_91_32 : σ32.2.2.2.1 (o + 91) = upd (fun _ => 0) 0 1 := by rw [(E_32.2 _ (by omega) (by omega)).2.1]; exact R_91_31
  have R_87_32 : σ32.2.2.2.1 (o + 87) = fun _ => 0 := by rw [(E_32.2 _ (by omega) (by omega)).2.1]; exact R_87_31
  have R_98_32 : σ32.2.2.2.1 (o + 98) = fun _ => 0 := by rw [(E_32.2 _ (by omega) (by omega)).2.1]; exact R_98_31
  have R_102_32 : σ32.2.2.2.1 (o + 102) = fun _ => 0 := by rw [(E_32.2 _ (by omega) (by omega)).2.1]; exact R_102_31
  have R_108_32 : σ32.2.2.2.1 (o + 108) = upd (fun _ => 0) 0 0 := by rw [(E_32.2 _ (by omega) (by omega)).2.1]; exact R_108_31
  have R_119_32 : σ32.2.2.2.1 (o + 119) = upd (fun _ => 0) 0 1 := by rw [(E_32.2 _ (by omega) (by omega)).2.1]; exact R_119_31
  have R_134_32 : σ32.2.2.2.1 (o + 134) = upd (fun _ => 0) 0 0 := by rw [(E_32.2 _ (by omega) (by omega)).2.1]; exact R_134_31
  have R_145_32 : σ32.2.2.2.1 (o + 145) = upd (fun _ => 0) 0 1 := by rw [(E_32.2 _ (by omega) (by omega)).2.1]; exact R_145_31
  have R_160_32 : σ32.2.2.2.1 (o + 160) = upd (fun _ => 0) 0 0 := by rw [(E_32.2 _ (by omega) (by omega)).2.1]; exact R_160_31
  have R_171_32 : σ32.2.2.2.1 (o + 171) = upd (fun _ => 0) 0 1 := by rw [(E_32.2 _ (by omega) (by omega)).2.1]; exact R_171_31
  have R_186_32 : σ32.2.2.2.1 (o + 186) = upd (fun _ => 0) 0 0 := by rw [(E_32.2 _ (by omega) (by omega)).2.1]; exact R_186_31
  have R_197_32 : σ32.2.2.2.1 (o + 197) = upd (fun _ => 0) 0 1 := by rw [(E_32.2 _ (by omega) (by omega)).2.1]; exact R_197_31
  have R_212_32 : σ32.2.2.2.1 (o + 212) = upd (fun _ => 0) 0 0 := by rw [(E_32.2 _ (by omega) (by omega)).2.1]; exact R_212_31
  have R_223_32 : σ32.2.2.2.1 (o + 223) = upd (fun _ => 0) 0 1 := by rw [(E_32.2 _ (by omega) (by omega)).2.1]; exact R_223_31
  have R_238_32 : σ32.2.2.2.1 (o + 238) = upd (fun _ => 0) 0 0 := by rw [(E_32.2 _ (by omega) (by omega)).2.1]; exact R_238_31
  have R_249_32 : σ32.2.2.2.1 (o + 249) = upd (fun _ => 0) 0 1 := by rw [(E_32.2 _ (by omega) (by omega)).2.1]; exact R_249_31
  have R_264_32 : σ32.2.2.2.1 (o + 264) = upd (fun _ => 0) 0 0 := by rw [(E_32.2 _ (by omega) (by omega)).2.1]; exact R_264_31
  have R_275_32 : σ32.2.2.2.1 (o + 275) = upd (fun _ => 0) 0 1 := by rw [(E_32.2 _ (by omega) (by omega)).2.1]; exact R_275_31
  have R_290_32 : σ32.2.2.2.1 (o + 290) = upd (fun _ => 0) 0 0 := by rw [(E_32.2 _ (by omega) (by omega)).2.1]; exact R_290_31
  have R_301_32 : σ32.2.2.2.1 (o + 301) = upd (fun _ => 0) 0 1 := by rw [(E_32.2 _ (by omega) (by omega)).2.1]; exact R_301_31
  have R_312_32 : σ32.2.2.2.1 (o + 312) = fun _ => 0 := by rw [(E_32.2 _ (by omega) (by omega)).2.1]; exact R_312_31
  have R_317_32 : σ32.2.2.2.1 (o + 317) = upd (fun _ => 0) 0 0 := by rw [(E_32.2 _ (by omega) (by omega)).2.1]; exact R_317_31
  have R_328_32 : σ32.2.2.2.1 (o + 328) = upd (fun _ => 0) 0 1 := by rw [(E_32.2 _ (by omega) (by omega)).2.1]; exact R_328_31
  have R_324_32 : σ32.2.2.2.1 (o + 324) = fun _ => 0 := by rw [(E_32.2 _ (by omega) (by omega)).2.1]; exact R_324_31
  have R_335_32 : σ32.2.2.2.1 (o + 335) = fun _ => 0 := by rw [(E_32.2 _ (by omega) (by omega)).2.1]; exact R_335_31
  have R_343_32 : σ32.2.2.2.1 (o + 343) = upd (fun _ => 0) 0 0 := by rw [(E_32.2 _ (by omega) (by omega)).2.1]; exact R_343_31
  have R_354_32 : σ32.2.2.2.1 (o + 354) = upd (fun _ => 0) 0 1 := by rw [(E_32.2 _ (by omega) (by omega)).2.1]; exact R_354_31
  have R_350_32 : σ32.2.2.2.1 (o + 350) = fun _ => 0 := by rw [(E_32.2 _ (by omega) (by omega)).2.1]; exact R_350_31
  have R_361_32 : σ32.2.2.2.1 (o + 361) = fun _ => 0 := by rw [(E_32.2 _ (by omega) (by omega)).2.1]; exact R_361_31
  have R_365_32 : σ32.2.2.2.1 (o + 365) = fun _ => 0 := by rw [(E_32.2 _ (by omega) (by omega)).2.1]; exact R_365_31
  have S_8_32 : isWays (mBo σ32) (o + 366) := Y0_32
  clear K_0_31 K_1_31 K_2_31 K_22_31 K_36_31 K_50_31 K_76_31 K_102_31 K_312_31 K_313_31 K_339_31 K_365_31 K_366_31 G_0_0_31 G_0_2_31 G_0_3_31 G_0_4_31 G_0_5_31 G_0_6_31 G_0_7_31 G_312_0_31 G_312_1_31 G_0_8_31 G_0_9_31 S_0_31 S_1_31 S_2_31 S_3_31 S_4_31 S_5_31 S_6_31 S_7_31 R_0_31 R_1_31 R_3_31 R_22_31 R_35_31 R_36_31 R_49_31 R_54_31 R_65_31 R_61_31 R_72_31 R_80_31 R_91_31 R_87_31 R_98_31 R_102_31 R_108_31 R_119_31 R_134_31 R_145_31 R_160_31 R_171_31 R_186_31 R_197_31 R_212_31 R_223_31 R_238_31 R_249_31 R_264_31 R_275_31 R_290_31 R_301_31 R_312_31 R_317_31 R_328_31 R_324_31 R_335_31 R_343_31 R_354_31 R_350_31 R_361_31 R_365_31 R_366_31 N_31 T_31 O_31 X_31 E_32 NN_32 TT_32 Y0_32 σ31
  show RC _ _ _ [some (.ref o)] [.ref (o + 366), .ref o] σ32 _
  refine c_putr K_0_32 ?_
  obtain ⟨σ33, e33⟩ : ∃ x, x = mPr σ32 o 10 (some (o + 366)) := ⟨_, rfl⟩
  rw [← e33]
  have N_33 : σ33.2.1.length = o + 370 := by rw [e33]; exact N_32
  have T_33 : σ33.1 = σ.1 + 10641 := by rw [e33]; exact T_32
  have O_33 : rOK σ33 := by rw [e33]; exact rOK_pr O_32 (by omega)
  have X_33 : Ex σ σ33 o := by rw [e33]; exact X_32.pr (by omega)
  have K_0_33 : σ33.2.1[o]? = some (9, 0) := by rw [e33]; exact K_0_32
  have K_1_33 : σ33.2.1[o + 1]? = some (21, 700) := by rw [e33]; exact K_1_32
  have K_2_33 : σ33.2.1[o + 2]? = some (5, 0) := by rw [e33]; exact K_2_32
  have K_22_33 : σ33.2.1[o + 22]? = some (4, 0) := by rw [e33]; exact K_22_32
  have K_36_33 : σ33.2.1[o + 36]? = some (4, 0) := by rw [e33]; exact K_36_32
  have K_50_33 : σ33.2.1[o + 50]? = some (8, 0) := by rw [e33]; exact K_50_32
  have K_76_33 : σ33.2.1[o + 76]? = some (8, 0) := by rw [e33]; exact K_76_32
  have K_102_33 : σ33.2.1[o + 102]? = some (1, 0) := by rw [e33]; exact K_102_32
  have K_312_33 : σ33.2.1[o + 312]? = some (26, 2) := by rw [e33]; exact K_312_32
  have K_313_33 : σ33.2.1[o + 313]? = some (8, 0) := by rw [e33]; exact K_313_32
  have K_339_33 : σ33.2.1[o + 339]? = some (8, 0) := by rw [e33]; exact K_339_32
  have K_365_33 : σ33.2.1[o + 365]? = some (22, 2) := by rw [e33]; exact K_365_32
  have K_366_33 : σ33.2.1[o + 366]? = some (7, 0) := by rw [e33]; exact K_366_32
  have G_0_0_33 : σ33.2.2.1 o 0 = some (o + 1) := by rw [e33]; exact g_prK (by decide) G_0_0_32
  have G_0_2_33 : σ33.2.2.1 o 2 = some (o + 2) := by rw [e33]; exact g_prK (by decide) G_0_2_32
  have G_0_3_33 : σ33.2.2.1 o 3 = some (o + 22) := by rw [e33]; exact g_prK (by decide) G_0_3_32
  have G_0_4_33 : σ33.2.2.1 o 4 = some (o + 36) := by rw [e33]; exact g_prK (by decide) G_0_4_32
  have G_0_5_33 : σ33.2.2.1 o 5 = some (o + 50) := by rw [e33]; exact g_prK (by decide) G_0_5_32
  have G_0_6_33 : σ33.2.2.1 o 6 = some (o + 76) := by rw [e33]; exact g_prK (by decide) G_0_6_32
  have G_0_7_33 : σ33.2.2.1 o 7 = some (o + 102) := by rw [e33]; exact g_prK (by decide) G_0_7_32
  have G_312_0_33 : σ33.2.2.1 (o + 312) 0 = some (o + 313) := by rw [e33]; exact g_prO (by omega) G_312_0_32
  have G_312_1_33 : σ33.2.2.1 (o + 312) 1 = some (o + 339) := by rw [e33]; exact g_prO (by omega) G_312_1_32
  have G_0_8_33 : σ33.2.2.1 o 8 = some (o + 312) := by rw [e33]; exact g_prK (by decide) G_0_8_32
  have G_0_9_33 : σ33.2.2.1 o 9 = some (o + 365) := by rw [e33]; exact g_prK (by decide) G_0_9_32
  have S_0_33 : isRd (mBo σ33) (o + 2) := by rw [e33]; exact isRd_ext S_0_32 (fun q x h => h) (fun q h1 h2 => mup_ne (by omega))
  have S_1_33 : isPrg (mBo σ33) (o + 22) := by rw [e33]; exact isPrg_ext S_1_32 (fun q x h => h) (fun q h1 h2 => mup_ne (by omega))
  have S_2_33 : isPrg (mBo σ33) (o + 36) := by rw [e33]; exact isPrg_ext S_2_32 (fun q x h => h) (fun q h1 h2 => mup_ne (by omega))
  have S_3_33 : isWorld (mBo σ33) (o + 50) := by rw [e33]; exact isWorld_ext S_3_32 (fun q x h => h) (fun q h1 h2 => mup_ne (by omega))
  have S_4_33 : isWorld (mBo σ33) (o + 76) := by rw [e33]; exact isWorld_ext S_4_32 (fun q x h => h) (fun q h1 h2 => mup_ne (by omega))
  have S_5_33 : isHi (mBo σ33) (o + 102) := by rw [e33]; exact isHi_ext S_5_32 (fun q x h => h) (fun q h1 h2 => mup_ne (by omega))
  have S_6_33 : isWorld (mBo σ33) (o + 313) := by rw [e33]; exact isWorld_ext S_6_32 (fun q x h => h) (fun q h1 h2 => mup_ne (by omega))
  have S_7_33 : isWorld (mBo σ33) (o + 339) := by rw [e33]; exact isWorld_ext S_7_32 (fun q x h => h) (fun q h1 h2 => mup_ne (by omega))
  have S_8_33 : isWays (mBo σ33) (o + 366) := by rw [e33]; exact isWays_ext S_8_32 (fun q x h => h) (fun q h1 h2 => mup_ne (by omega))
  have R_0_33 : σ33.2.2.2.1 o = fun _ => 0 := by rw [e33]; exact R_0_32
  have R_1_33 : σ33.2.2.2.1 (o + 1) = fun _ => 0 := by rw [e33]; exact R_1_32
  have R_3_33 : σ33.2.2.2.1 (o + 3) = (FX5_init_t (fun _ => 0)).2 := by rw [e33]; exact R_3_32
  have R_22_33 : σ33.2.2.2.1 (o + 22) = (FX4_empty (fun _ => 0) (fun _ => 0)).2.1 := by rw [e33]; exact R_22_32
  have R_35_33 : σ33.2.2.2.1 (o + 35) = (FX4_empty (fun _ => 0) (fun _ => 0)).2.2 := by rw [e33]; exact R_35_32
  have R_36_33 : σ33.2.2.2.1 (o + 36) = (FX4_empty (fun _ => 0) (fun _ => 0)).2.1 := by rw [e33]; exact R_36_32
  have R_49_33 : σ33.2.2.2.1 (o + 49) = (FX4_empty (fun _ => 0) (fun _ => 0)).2.2 := by rw [e33]; exact R_49_32
  have R_54_33 : σ33.2.2.2.1 (o + 54) = upd (fun _ => 0) 0 0 := by rw [e33]; exact R_54_32
  have R_65_33 : σ33.2.2.2.1 (o + 65) = upd (fun _ => 0) 0 1 := by rw [e33]; exact R_65_32
  have R_61_33 : σ33.2.2.2.1 (o + 61) = fun _ => 0 := by rw [e33]; exact R_61_32
  have R_72_33 : σ33.2.2.2.1 (o + 72) = fun _ => 0 := by rw [e33]; exact R_72_32
  have R_80_33 : σ33.2.2.2.1 (o + 80) = upd (fun _ => 0) 0 0 := by rw [e33]; exact R_80_32
  have R_91_33 : σ33.2.2.2.1 (o + 91) = upd (fun _ => 0) 0 1 := by rw [e33]; exact R_91_32
  have R_87_33 : σ33.2.2.2.1 (o + 87) = fun _ => 0 := by rw [e33]; exact R_87_32
  have R_98_33 : σ33.2.2.2.1 (o + 98) = fun _ => 0 := by rw [e33]; exact R_98_32
  have R_102_33 : σ33.2.2.2.1 (o + 102) = fun _ => 0 := by rw [e33]; exact R_102_32
  have R_108_33 : σ33.2.2.2.1 (o + 108) = upd (fun _ => 0) 0 0 := by rw [e33]; exact R_108_32
  have R_119_33 : σ33.2.2.2.1 (o + 119) = upd (fun _ => 0) 0 1 := by rw [e33]; exact R_119_32
  have R_134_33 : σ33.2.2.2.1 (o + 134) = upd (fun _ => 0) 0 0 := by rw [e33]; exact R_134_32
  have R_145_33 : σ33.2.2.2.1 (o + 145) = upd (fun _ => 0) 0 1 := by rw [e33]; exact R_145_32
  have R_160_33 : σ33.2.2.2.1 (o + 160) = upd (fun _ => 0) 0 0 := by rw [e33]; exact R_160_32
  have R_171_33 : σ33.2.2.2.1 (o + 171) = upd (fun _ => 0) 0 1 := by rw [e33]; exact R_171_32
  have R_186_33 : σ33.2.2.2.1 (o + 186) = upd (fun _ => 0) 0 0 := by rw [e33]; exact R_186_32
  have R_197_33 : σ33.2.2.2.1 (o + 197) = upd (fun _ => 0) 0 1 := by rw [e33]; exact R_197_32
  have R_212_33 : σ33.2.2.2.1 (o + 212) = upd (fun _ => 0) 0 0 := by rw [e33]; exact R_212_32
  have R_223_33 : σ33.2.2.2.1 (o + 223) = upd (fun _ => 0) 0 1 := by rw [e33]; exact R_223_32
  have R_238_33 : σ33.2.2.2.1 (o + 238) = upd (fun _ => 0) 0 0 := by rw [e33]; exact R_238_32
  have R_249_33 : σ33.2.2.2.1 (o + 249) = upd (fun _ => 0) 0 1 := by rw [e33]; exact R_249_32
  have R_264_33 : σ33.2.2.2.1 (o + 264) = upd (fun _ => 0) 0 0 := by rw [e33]; exact R_264_32
  have R_275_33 : σ33.2.2.2.1 (o + 275) = upd (fun _ => 0) 0 1 := by rw [e33]; exact R_275_32
  have R_290_33 : σ33.2.2.2.1 (o + 290) = upd (fun _ => 0) 0 0 := by rw [e33]; exact R_290_32
  have R_301_33 : σ33.2.2.2.1 (o + 301) = upd (fun _ => 0) 0 1 := by rw [e33]; exact R_301_32
  have R_312_33 : σ33.2.2.2.1 (o + 312) = fun _ => 0 := by rw [e33]; exact R_312_32
  have R_317_33 : σ33.2.2.2.1 (o + 317) = upd (fun _ => 0) 0 0 := by rw [e33]; exact R_317_32
  have R_328_33 : σ33.2.2.2.1 (o + 328) = upd (fun _ => 0) 0 1 := by rw [e33]; exact R_328_32
  have R_324_33 : σ33.2.2.2.1 (o + 324) = fun _ => 0 := by rw [e33]; exact R_324_32
  have R_335_33 : σ33.2.2.2.1 (o + 335) = fun _ => 0 := by rw [e33]; exact R_335_32
  have R_343_33 : σ33.2.2.2.1 (o + 343) = upd (fun _ => 0) 0 0 := by rw [e33]; exact R_343_32
  have R_354_33 : σ33.2.2.2.1 (o + 354) = upd (fun _ => 0) 0 1 := by rw [e33]; exact R_354_32
  have R_350_33 : σ33.2.2.2.1 (o + 350) = fun _ => 0 := by rw [e33]; exact R_350_32
  have R_361_33 : σ33.2.2.2.1 (o + 361) = fun _ => 0 := by rw [e33]; exact R_361_32
  have R_365_33 : σ33.2.2.2.1 (o + 365) = fun _ => 0 := by rw [e33]; exact R_365_32
  have G_0_10_33 : σ33.2.2.1 o 10 = some (o + 366) := by rw [e33]; exact g_prS
  clear K_0_32 K_1_32 K_2_32 K_22_32 K_36_32 K_50_32 K_76_32 K_102_32 K_312_32 K_313_32 K_339_32 K_365_32 K_366_32 G_0_0_32 G_0_2_32 G_0_3_32 G_0_4_32 G_0_5_32 G_0_6_32 G_0_7_32 G_312_0_32 G_312_1_32 G_0_8_32 G_0_9_32 S_0_32 S_1_32 S_2_32 S_3_32 S_4_32 S_5_32 S_6_32 S_7_32 S_8_32 R_0_32 R_1_32 R_3_32 R_22_32 R_35_32 R_36_32 R_49_32 R_54_32 R_65_32 R_61_32 R_72_32 R_80_32 R_91_32 R_87_32 R_98_32 R_102_32 R_108_32 R_119_32 R_134_32 R_145_32 R_160_32 R_171_32 R_186_32 R_197_32 R_212_32 R_223_32 R_238_32 R_249_32 R_264_32 R_275_32 R_290_32 R_301_32 R_312_32 R_317_32 R_328_32 R_324_32 R_335_32 R_343_32 R_354_32 R_350_32 R_361_32 R_365_32 N_32 T_32 O_32 X_32 e33 σ32
  show RC _ _ _ [some (.ref o)] [] σ33 _
  refine c_aload rfl ?_
  refine c_int ?_
  refine c_newa (t := 0) (z := 16) (by decide) (by decide) (mOut_lt (ltL [o] rfl (List.forall_mem_cons.mpr ⟨by omega, (fun _ h => absurd h List.not_mem_nil)⟩)) (ltS [o] rfl (List.forall_mem_cons.mpr ⟨by omega, (fun _ h => absurd h List.not_mem_nil)⟩))) O_33 ?_
  rw [show ((16 : Int32)).toNatClampNeg = 16 by decide]
  obtain ⟨σ34, e34⟩ : ∃ x, x = mNew σ33 20 16 16 := ⟨_, rfl⟩
  rw [← e34, show σ33.2.1.length = o + 370 by omega]
  have N_34 : σ34.2.1.length = o + 371 := by rw [e34, len_new]; omega
  have T_34 : σ34.1 = σ.1 + 10657 := by rw [e34]; show σ33.1 + 16 = _; omega
  have O_34 : rOK σ34 := by rw [e34]; exact rOK_new O_33
  have X_34 : Ex σ σ34 o := by rw [e34]; exact X_33.new (by omega)
  have K_0_34 : σ34.2.1[o]? = some (9, 0) := by rw [e34]; exact k_new K_0_33
  have K_1_34 : σ34.2.1[o + 1]? = some (21, 700) := by rw [e34]; exact k_new K_1_33
  have K_2_34 : σ34.2.1[o + 2]? = some (5, 0) := by rw [e34]; exact k_new K_2_33
  have K_22_34 : σ34.2.1[o + 22]? = some (4, 0) := by rw [e34]; exact k_new K_22_33
  have K_36_34 : σ34.2.1[o + 36]? = some (4, 0) := by rw [e34]; exact k_new K_36_33
  have K_50_34 : σ34.2.1[o + 50]? = some (8, 0) := by rw [e34]; exact k_new K_50_33
  have K_76_34 : σ34.2.1[o + 76]? = some (8, 0) := by rw [e34]; exact k_new K_76_33
  have K_102_34 : σ34.2.1[o + 102]? = some (1, 0) := by rw [e34]; exact k_new K_102_33
  have K_312_34 : σ34.2.1[o + 312]? = some (26, 2) := by rw [e34]; exact k_new K_312_33
  have K_313_34 : σ34.2.1[o + 313]? = some (8, 0) := by rw [e34]; exact k_new K_313_33
  have K_339_34 : σ34.2.1[o + 339]? = some (8, 0) := by rw [e34]; exact k_new K_339_33
  have K_365_34 : σ34.2.1[o + 365]? = some (22, 2) := by rw [e34]; exact k_new K_365_33
  have K_366_34 : σ34.2.1[o + 366]? = some (7, 0) := by rw [e34]; exact k_new K_366_33
  have G_0_0_34 : σ34.2.2.1 o 0 = some (o + 1) := by rw [e34]; exact g_new (by omega) G_0_0_33
  have G_0_2_34 : σ34.2.2.1 o 2 = some (o + 2) := by rw [e34]; exact g_new (by omega) G_0_2_33
  have G_0_3_34 : σ34.2.2.1 o 3 = some (o + 22) := by rw [e34]; exact g_new (by omega) G_0_3_33
  have G_0_4_34 : σ34.2.2.1 o 4 = some (o + 36) := by rw [e34]; exact g_new (by omega) G_0_4_33
  have G_0_5_34 : σ34.2.2.1 o 5 = some (o + 50) := by rw [e34]; exact g_new (by omega) G_0_5_33
  have G_0_6_34 : σ34.2.2.1 o 6 = some (o + 76) := by rw [e34]; exact g_new (by omega) G_0_6_33
  have G_0_7_34 : σ34.2.2.1 o 7 = some (o + 102) := by rw [e34]; exact g_new (by omega) G_0_7_33
  have G_312_0_34 : σ34.2.2.1 (o + 312) 0 = some (o + 313) := by rw [e34]; exact g_new (by omega) G_312_0_33
  have G_312_1_34 : σ34.2.2.1 (o + 312) 1 = some (o + 339) := by rw [e34]; exact g_new (by omega) G_312_1_33
  have G_0_8_34 : σ34.2.2.1 o 8 = some (o + 312) := by rw [e34]; exact g_new (by omega) G_0_8_33
  have G_0_9_34 : σ34.2.2.1 o 9 = some (o + 365) := by rw [e34]; exact g_new (by omega) G_0_9_33
  have G_0_10_34 : σ34.2.2.1 o 10 = some (o + 366) := by rw [e34]; exact g_new (by omega) G_0_10_33
  have S_0_34 : isRd (mBo σ34) (o + 2) := by rw [e34]; exact isRd_ext S_0_33 (fun q x h => k_new h) (fun q h1 h2 => mup_ne (by omega))
  have S_1_34 : isPrg (mBo σ34) (o + 22) := by rw [e34]; exact isPrg_ext S_1_33 (fun q x h => k_new h) (fun q h1 h2 => mup_ne (by omega))
  have S_2_34 : isPrg (mBo σ34) (o + 36) := by rw [e34]; exact isPrg_ext S_2_33 (fun q x h => k_new h) (fun q h1 h2 => mup_ne (by omega))
  have S_3_34 : isWorld (mBo σ34) (o + 50) := by rw [e34]; exact isWorld_ext S_3_33 (fun q x h => k_new h) (fun q h1 h2 => mup_ne (by omega))
  have S_4_34 : isWorld (mBo σ34) (o + 76) := by rw [e34]; exact isWorld_ext S_4_33 (fun q x h => k_new h) (fun q h1 h2 => mup_ne (by omega))
  have S_5_34 : isHi (mBo σ34) (o + 102) := by rw [e34]; exact isHi_ext S_5_33 (fun q x h => k_new h) (fun q h1 h2 => mup_ne (by omega))
  have S_6_34 : isWorld (mBo σ34) (o + 313) := by rw [e34]; exact isWorld_ext S_6_33 (fun q x h => k_new h) (fun q h1 h2 => mup_ne (by omega))
  have S_7_34 : isWorld (mBo σ34) (o + 339) := by rw [e34]; exact isWorld_ext S_7_33 (fun q x h => k_new h) (fun q h1 h2 => mup_ne (by omega))
  have S_8_34 : isWays (mBo σ34) (o + 366) := by rw [e34]; exact isWays_ext S_8_33 (fun q x h => k_new h) (fun q h1 h2 => mup_ne (by omega))
  have R_0_34 : σ34.2.2.2.1 o = fun _ => 0 := by rw [e34]; exact (mup_ne (by omega)).trans R_0_33
  have R_1_34 : σ34.2.2.2.1 (o + 1) = fun _ => 0 := by rw [e34]; exact (mup_ne (by omega)).trans R_1_33
  have R_3_34 : σ34.2.2.2.1 (o + 3) = (FX5_init_t (fun _ => 0)).2 := by rw [e34]; exact (mup_ne (by omega)).trans R_3_33
  have R_22_34 : σ34.2.2.2.1 (o + 22) = (FX4_empty (fun _ => 0) (fun _ => 0)).2.1 := by rw [e34]; exact (mup_ne (by omega)).trans R_22_33
  have R_35_34 : σ34.2.2.2.1 (o + 35) = (FX4_empty (fun _ => 0) (fun _ => 0)).2.2 := by rw [e34]; exact (mup_ne (by omega)).trans R_35_33
  have R_36_34 : σ34.2.2.2.1 (o + 36) = (FX4_empty (fun _ => 0) (fun _ => 0)).2.1 := by rw [e34]; exact (mup_ne (by omega)).trans R_36_33
  have R_49_34 : σ34.2.2.2.1 (o + 49) = (FX4_empty (fun _ => 0) (fun _ => 0)).2.2 := by rw [e34]; exact (mup_ne (by omega)).trans R_49_33
  have R_54_34 : σ34.2.2.2.1 (o + 54) = upd (fun _ => 0) 0 0 := by rw [e34]; exact (mup_ne (by omega)).trans R_54_33
  have R_65_34 : σ34.2.2.2.1 (o + 65) = upd (fun _ => 0) 0 1 := by rw [e34]; exact (mup_ne (by omega)).trans R_65_33
  have R_61_34 : σ34.2.2.2.1 (o + 61) = fun _ => 0 := by rw [e34]; exact (mup_ne (by omega)).trans R_61_33
  have R_72_34 : σ34.2.2.2.1 (o + 72) = fun _ => 0 := by rw [e34]; exact (mup_ne (by omega)).trans R_72_33
  have R_80_34 : σ34.2.2.2.1 (o + 80) = upd (fun _ => 0) 0 0 := by rw [e34]; exact (mup_ne (by omega)).trans R_80_33
  have R_91_34 : σ34.2.2.2.1 (o + 91) = upd (fun _ => 0) 0 1 := by rw [e34]; exact (mup_ne (by omega)).trans R_91_33
  have R_87_34 : σ34.2.2.2.1 (o + 87) = fun _ => 0 := by rw [e34]; exact (mup_ne (by omega)).trans R_87_33
  have R_98_34 : σ34.2.2.2.1 (o + 98) = fun _ => 0 := by rw [e34]; exact (mup_ne (by omega)).trans R_98_33
  have R_102_34 : σ34.2.2.2.1 (o + 102) = fun _ => 0 := by rw [e34]; exact (mup_ne (by omega)).trans R_102_33
  have R_108_34 : σ34.2.2.2.1 (o + 108) = upd (fun _ => 0) 0 0 := by rw [e34]; exact (mup_ne (by omega)).trans R_108_33
  have R_119_34 : σ34.2.2.2.1 (o + 119) = upd (fun _ => 0) 0 1 := by rw [e34]; exact (mup_ne (by omega)).trans R_119_33
  have R_134_34 : σ34.2.2.2.1 (o + 134) = upd (fun _ => 0) 0 0 := by rw [e34]; exact (mup_ne (by omega)).trans R_134_33
  have R_145_34 : σ34.2.2.2.1 (o + 145) = upd (fun _ => 0) 0 1 := by rw [e34]; exact (mup_ne (by omega)).trans R_145_33
  have R_160_34 : σ34.2.2.2.1 (o + 160) = upd (fun _ => 0) 0 0 := by rw [e34]; exact (mup_ne (by omega)).trans R_160_33
  have R_171_34 : σ34.2.2.2.1 (o + 171) = upd (fun _ => 0) 0 1 := by rw [e34]; exact (mup_ne (by omega)).trans R_171_33
  have R_186_34 : σ34.2.2.2.1 (o + 186) = upd (fun _ => 0) 0 0 := by rw [e34]; exact (mup_ne (by omega)).trans R_186_33
  have R_197_34 : σ34.2.2.2.1 (o + 197) = upd (fun _ => 0) 0 1 := by rw [e34]; exact (mup_ne (by omega)).trans R_197_33
  have R_212_34 : σ34.2.2.2.1 (o + 212) = upd (fun _ => 0) 0 0 := by rw [e34]; exact (mup_ne (by omega)).trans R_212_33
  have R_223_34 : σ34.2.2.2.1 (o + 223) = upd (fun _ => 0) 0 1 := by rw [e34]; exact (mup_ne (by omega)).trans R_223_33
  have R_238_34 : σ34.2.2.2.1 (o + 238) = upd (fun _ => 0) 0 0 := by rw [e34]; exact (mup_ne (by omega)).trans R_238_33
  have R_249_34 : σ34.2.2.2.1 (o + 249) = upd (fun _ => 0) 0 1 := by rw [e34]; exact (mup_ne (by omega)).trans R_249_33
  have R_264_34 : σ34.2.2.2.1 (o + 264) = upd (fun _ => 0) 0 0 := by rw [e34]; exact (mup_ne (by omega)).trans R_264_33
  have R_275_34 : σ34.2.2.2.1 (o + 275) = upd (fun _ => 0) 0 1 := by rw [e34]; exact (mup_ne (by omega)).trans R_275_33
  have R_290_34 : σ34.2.2.2.1 (o + 290) = upd (fun _ => 0) 0 0 := by rw [e34]; exact (mup_ne (by omega)).trans R_290_33
  have R_301_34 : σ34.2.2.2.1 (o + 301) = upd (fun _ => 0) 0 1 := by rw [e34]; exact (mup_ne (by omega)).trans R_301_33
  have R_312_34 : σ34.2.2.2.1 (o + 312) = fun _ => 0 := by rw [e34]; exact (mup_ne (by omega)).trans R_312_33
  have R_317_34 : σ34.2.2.2.1 (o + 317) = upd (fun _ => 0) 0 0 := by rw [e34]; exact (mup_ne (by omega)).trans R_317_33
  have R_328_34 : σ34.2.2.2.1 (o + 328) = upd (fun _ => 0) 0 1 := by rw [e34]; exact (mup_ne (by omega)).trans R_328_33
  have R_324_34 : σ34.2.2.2.1 (o + 324) = fun _ => 0 := by rw [e34]; exact (mup_ne (by omega)).trans R_324_33
  have R_335_34 : σ34.2.2.2.1 (o + 335) = fun _ => 0 := by rw [e34]; exact (mup_ne (by omega)).trans R_335_33
  have R_343_34 : σ34.2.2.2.1 (o + 343) = upd (fun _ => 0) 0 0 := by rw [e34]; exact (mup_ne (by omega)).trans R_343_33
  have R_354_34 : σ34.2.2.2.1 (o + 354) = upd (fun _ => 0) 0 1 := by rw [e34]; exact (mup_ne (by omega)).trans R_354_33
  have R_350_34 : σ34.2.2.2.1 (o + 350) = fun _ => 0 := by rw [e34]; exact (mup_ne (by omega)).trans R_350_33
  have R_361_34 : σ34.2.2.2.1 (o + 361) = fun _ => 0 := by rw [e34]; exact (mup_ne (by omega)).trans R_361_33
  have R_365_34 : σ34.2.2.2.1 (o + 365) = fun _ => 0 := by rw [e34]; exact (mup_ne (by omega)).trans R_365_33
  have K_370_34 : σ34.2.1[o + 370]? = some (20, 16) := by rw [e34, ← show σ33.2.1.length = o + 370 by omega]; exact k_newS
  have R_370_34 : σ34.2.2.2.1 (o + 370) = fun _ => 0 := by rw [e34, ← show σ33.2.1.length = o + 370 by omega]; exact mup_eq
  clear K_0_33 K_1_33 K_2_33 K_22_33 K_36_33 K_50_33 K_76_33 K_102_33 K_312_33 K_313_33 K_339_33 K_365_33 K_366_33 G_0_0_33 G_0_2_33 G_0_3_33 G_0_4_33 G_0_5_33 G_0_6_33 G_0_7_33 G_312_0_33 G_312_1_33 G_0_8_33 G_0_9_33 G_0_10_33 S_0_33 S_1_33 S_2_33 S_3_33 S_4_33 S_5_33 S_6_33 S_7_33 S_8_33 R_0_33 R_1_33 R_3_33 R_22_33 R_35_33 R_36_33 R_49_33 R_54_33 R_65_33 R_61_33 R_72_33 R_80_33 R_91_33 R_87_33 R_98_33 R_102_33 R_108_33 R_119_33 R_134_33 R_145_33 R_160_33 R_171_33 R_186_33 R_197_33 R_212_33 R_223_33 R_238_33 R_249_33 R_264_33 R_275_33 R_290_33 R_301_33 R_312_33 R_317_33 R_328_33 R_324_33 R_335_33 R_343_33 R_354_33 R_350_33 R_361_33 R_365_33 N_33 T_33 O_33 X_33 e34 σ33
  show RC _ _ _ [some (.ref o)] [.ref (o + 370), .ref o] σ34 _
  refine c_putr K_0_34 ?_
  obtain ⟨σ35, e35⟩ : ∃ x, x = mPr σ34 o 11 (some (o + 370)) := ⟨_, rfl⟩
  rw [← e35]
  have N_35 : σ35.2.1.length = o + 371 := by rw [e35]; exact N_34
  have T_35 : σ35.1 = σ.1 + 10657 := by rw [e35]; exact T_34
  have O_35 : rOK σ35 := by rw [e35]; exact rOK_pr O_34 (by omega)
  have X_35 : Ex σ σ35 o := by rw [e35]; exact X_34.pr (by omega)
  have K_0_35 : σ35.2.1[o]? = some (9, 0) := by rw [e35]; exact K_0_34
  have K_1_35 : σ35.2.1[o + 1]? = some (21, 700) := by rw [e35]; exact K_1_34
  have K_2_35 : σ35.2.1[o + 2]? = some (5, 0) := by rw [e35]; exact K_2_34
  have K_22_35 : σ35.2.1[o + 22]? = some (4, 0) := by rw [e35]; exact K_22_34
  have K_36_35 : σ35.2.1[o + 36]? = some (4, 0) := by rw [e35]; exact K_36_34
  have K_50_35 : σ35.2.1[o + 50]? = some (8, 0) := by rw [e35]; exact K_50_34
  have K_76_35 : σ35.2.1[o + 76]? = some (8, 0) := by rw [e35]; exact K_76_34
  have K_102_35 : σ35.2.1[o + 102]? = some (1, 0) := by rw [e35]; exact K_102_34
  have K_312_35 : σ35.2.1[o + 312]? = some (26, 2) := by rw [e35]; exact K_312_34
  have K_313_35 : σ35.2.1[o + 313]? = some (8, 0) := by rw [e35]; exact K_313_34
  have K_339_35 : σ35.2.1[o + 339]? = some (8, 0) := by rw [e35]; exact K_339_34
  have K_365_35 : σ35.2.1[o + 365]? = some (22, 2) := by rw [e35]; exact K_365_34
  have K_366_35 : σ35.2.1[o + 366]? = some (7, 0) := by rw [e35]; exact K_366_34
  have K_370_35 : σ35.2.1[o + 370]? = some (20, 16) := by rw [e35]; exact K_370_34
  have G_0_0_35 : σ35.2.2.1 o 0 = some (o + 1) := by rw [e35]; exact g_prK (by decide) G_0_0_34
  have G_0_2_35 : σ35.2.2.1 o 2 = some (o + 2) := by rw [e35]; exact g_prK (by decide) G_0_2_34
  have G_0_3_35 : σ35.2.2.1 o 3 = some (o + 22) := by rw [e35]; exact g_prK (by decide) G_0_3_34
  have G_0_4_35 : σ35.2.2.1 o 4 = some (o + 36) := by rw [e35]; exact g_prK (by decide) G_0_4_34
  have G_0_5_35 : σ35.2.2.1 o 5 = some (o + 50) := by rw [e35]; exact g_prK (by decide) G_0_5_34
  have G_0_6_35 : σ35.2.2.1 o 6 = some (o + 76) := by rw [e35]; exact g_prK (by decide) G_0_6_34
  have G_0_7_35 : σ35.2.2.1 o 7 = some (o + 102) := by rw [e35]; exact g_prK (by decide) G_0_7_34
  have G_312_0_35 : σ35.2.2.1 (o + 312) 0 = some (o + 313) := by rw [e35]; exact g_prO (by omega) G_312_0_34
  have G_312_1_35 : σ35.2.2.1 (o + 312) 1 = some (o + 339) := by rw [e35]; exact g_prO (by omega) G_312_1_34
  have G_0_8_35 : σ35.2.2.1 o 8 = some (o + 312) := by rw [e35]; exact g_prK (by decide) G_0_8_34
  have G_0_9_35 : σ35.2.2.1 o 9 = some (o + 365) := by rw [e35]; exact g_prK (by decide) G_0_9_34
  have G_0_10_35 : σ35.2.2.1 o 10 = some (o + 366) := by rw [e35]; exact g_prK (by decide) G_0_10_34
  have S_0_35 : isRd (mBo σ35) (o + 2) := by rw [e35]; exact isRd_ext S_0_34 (fun q x h => h) (fun q h1 h2 => mup_ne (by omega))
  have S_1_35 : isPrg (mBo σ35) (o + 22) := by rw [e35]; exact isPrg_ext S_1_34 (fun q x h => h) (fun q h1 h2 => mup_ne (by omega))
  have S_2_35 : isPrg (mBo σ35) (o + 36) := by rw [e35]; exact isPrg_ext S_2_34 (fun q x h => h) (fun q h1 h2 => mup_ne (by omega))
  have S_3_35 : isWorld (mBo σ35) (o + 50) := by rw [e35]; exact isWorld_ext S_3_34 (fun q x h => h) (fun q h1 h2 => mup_ne (by omega))
  have S_4_35 : isWorld (mBo σ35) (o + 76) := by rw [e35]; exact isWorld_ext S_4_34 (fun q x h => h) (fun q h1 h2 => mup_ne (by omega))
  have S_5_35 : isHi (mBo σ35) (o + 102) := by rw [e35]; exact isHi_ext S_5_34 (fun q x h => h) (fun q h1 h2 => mup_ne (by omega))
  have S_6_35 : isWorld (mBo σ35) (o + 313) := by rw [e35]; exact isWorld_ext S_6_34 (fun q x h => h) (fun q h1 h2 => mup_ne (by omega))
  have S_7_35 : isWorld (mBo σ35) (o + 339) := by rw [e35]; exact isWorld_ext S_7_34 (fun q x h => h) (fun q h1 h2 => mup_ne (by omega))
  have S_8_35 : isWays (mBo σ35) (o + 366) := by rw [e35]; exact isWays_ext S_8_34 (fun q x h => h) (fun q h1 h2 => mup_ne (by omega))
  have R_0_35 : σ35.2.2.2.1 o = fun _ => 0 := by rw [e35]; exact R_0_34
  have R_1_35 : σ35.2.2.2.1 (o + 1) = fun _ => 0 := by rw [e35]; exact R_1_34
  have R_3_35 : σ35.2.2.2.1 (o + 3) = (FX5_init_t (fun _ => 0)).2 := by rw [e35]; exact R_3_34
  have R_22_35 : σ35.2.2.2.1 (o + 22) = (FX4_empty (fun _ => 0) (fun _ => 0)).2.1 := by rw [e35]; exact R_22_34
  have R_35_35 : σ35.2.2.2.1 (o + 35) = (FX4_empty (fun _ => 0) (fun _ => 0)).2.2 := by rw [e35]; exact R_35_34
  have R_36_35 : σ35.2.2.2.1 (o + 36) = (FX4_empty (fun _ => 0) (fun _ => 0)).2.1 := by rw [e35]; exact R_36_34
  have R_49_35 : σ35.2.2.2.1 (o + 49) = (FX4_empty (fun _ => 0) (fun _ => 0)).2.2 := by rw [e35]; exact R_49_34
  have R_54_35 : σ35.2.2.2.1 (o + 54) = upd (fun _ => 0) 0 0 := by rw [e35]; exact R_54_34
  have R_65_35 : σ35.2.2.2.1 (o + 65) = upd (fun _ => 0) 0 1 := by rw [e35]; exact R_65_34
  have R_61_35 : σ35.2.2.2.1 (o + 61) = fun _ => 0 := by rw [e35]; exact R_61_34
  have R_72_35 : σ35.2.2.2.1 (o + 72) = fun _ => 0 := by rw [e35]; exact R_72_34
  have R_80_35 : σ35.2.2.2.1 (o + 80) = upd (fun _ => 0) 0 0 := by rw [e35]; exact R_80_34
  have R_91_35 : σ35.2.2.2.1 (o + 91) = upd (fun _ => 0) 0 1 := by rw [e35]; exact R_91_34
  have R_87_35 : σ35.2.2.2.1 (o + 87) = fun _ => 0 := by rw [e35]; exact R_87_34
  have R_98_35 : σ35.2.2.2.1 (o + 98) = fun _ => 0 := by rw [e35]; exact R_98_34
  have R_102_35 : σ35.2.2.2.1 (o + 102) = fun _ => 0 := by rw [e35]; exact R_102_34
  have R_108_35 : σ35.2.2.2.1 (o + 108) = upd (fun _ => 0) 0 0 := by rw [e35]; exact R_108_34
  have R_119_35 : σ35.2.2.2.1 (o + 119) = upd (fun _ => 0) 0 1 := by rw [e35]; exact R_119_34
  have R_134_35 : σ35.2.2.2.1 (o + 134) = upd (fun _ => 0) 0 0 := by rw [e35]; exact R_134_34
  have R_145_35 : σ35.2.2.2.1 (o + 145) = upd (fun _ => 0) 0 1 := by rw [e35]; exact R_145_34
  have R_160_35 : σ35.2.2.2.1 (o + 160) = upd (fun _ => 0) 0 0 := by rw [e35]; exact R_160_34
  have R_171_35 : σ35.2.2.2.1 (o + 171) = upd (fun _ => 0) 0 1 := by rw [e35]; exact R_171_34
  have R_186_35 : σ35.2.2.2.1 (o + 186) = upd (fun _ => 0) 0 0 := by rw [e35]; exact R_186_34
  have R_197_35 : σ35.2.2.2.1 (o + 197) = upd (fun _ => 0) 0 1 := by rw [e35]; exact R_197_34
  have R_212_35 : σ35.2.2.2.1 (o + 212) = upd (fun _ => 0) 0 0 := by rw [e35]; exact R_212_34
  have R_223_35 : σ35.2.2.2.1 (o + 223) = upd (fun _ => 0) 0 1 := by rw [e35]; exact R_223_34
  have R_238_35 : σ35.2.2.2.1 (o + 238) = upd (fun _ => 0) 0 0 := by rw [e35]; exact R_238_34
  have R_249_35 : σ35.2.2.2.1 (o + 249) = upd (fun _ => 0) 0 1 := by rw [e35]; exact R_249_34
  have R_264_35 : σ35.2.2.2.1 (o + 264) = upd (fun _ => 0) 0 0 := by rw [e35]; exact R_264_34
  have R_275_35 : σ35.2.2.2.1 (o + 275) = upd (fun _ => 0) 0 1 := by rw [e35]; exact R_275_34
  have R_290_35 : σ35.2.2.2.1 (o + 290) = upd (fun _ => 0) 0 0 := by rw [e35]; exact R_290_34
  have R_301_35 : σ35.2.2.2.1 (o + 301) = upd (fun _ => 0) 0 1 := by rw [e35]; exact R_301_34
  have R_312_35 : σ35.2.2.2.1 (o + 312) = fun _ => 0 := by rw [e35]; exact R_312_34
  have R_317_35 : σ35.2.2.2.1 (o + 317) = upd (fun _ => 0) 0 0 := by rw [e35]; exact R_317_34
  have R_328_35 : σ35.2.2.2.1 (o + 328) = upd (fun _ => 0) 0 1 := by rw [e35]; exact R_328_34
  have R_324_35 : σ35.2.2.2.1 (o + 324) = fun _ => 0 := by rw [e35]; exact R_324_34
  have R_335_35 : σ35.2.2.2.1 (o + 335) = fun _ => 0 := by rw [e35]; exact R_335_34
  have R_343_35 : σ35.2.2.2.1 (o + 343) = upd (fun _ => 0) 0 0 := by rw [e35]; exact R_343_34
  have R_354_35 : σ35.2.2.2.1 (o + 354) = upd (fun _ => 0) 0 1 := by rw [e35]; exact R_354_34
  have R_350_35 : σ35.2.2.2.1 (o + 350) = fun _ => 0 := by rw [e35]; exact R_350_34
  have R_361_35 : σ35.2.2.2.1 (o + 361) = fun _ => 0 := by rw [e35]; exact R_361_34
  have R_365_35 : σ35.2.2.2.1 (o + 365) = fun _ => 0 := by rw [e35]; exact R_365_34
  have R_370_35 : σ35.2.2.2.1 (o + 370) = fun _ => 0 := by rw [e35]; exact R_370_34
  have G_0_11_35 : σ35.2.2.1 o 11 = some (o + 370) := by rw [e35]; exact g_prS
  clear K_0_34 K_1_34 K_2_34 K_22_34 K_36_34 K_50_34 K_76_34 K_102_34 K_312_34 K_313_34 K_339_34 K_365_34 K_366_34 K_370_34 G_0_0_34 G_0_2_34 G_0_3_34 G_0_4_34 G_0_5_34 G_0_6_34 G_0_7_34 G_312_0_34 G_312_1_34 G_0_8_34 G_0_9_34 G_0_10_34 S_0_34 S_1_34 S_2_34 S_3_34 S_4_34 S_5_34 S_6_34 S_7_34 S_8_34 R_0_34 R_1_34 R_3_34 R_22_34 R_35_34 R_36_34 R_49_34 R_54_34 R_65_34 R_61_34 R_72_34 R_80_34 R_91_34 R_87_34 R_98_34 R_102_34 R_108_34 R_119_34 R_134_34 R_145_34 R_160_34 R_171_34 R_186_34 R_197_34 R_212_34 R_223_34 R_238_34 R_249_34 R_264_34 R_275_34 R_290_34 R_301_34 R_312_34 R_317_34 R_328_34 R_324_34 R_335_34 R_343_34 R_354_34 R_350_34 R_361_34 R_365_34 R_370_34 N_34 T_34 O_34 X_34 e35 σ34
  show RC _ _ _ [some (.ref o)] [] σ35 _
  refine c_rest (Q := fun r τ => r = none ∧ (fun τ => ∃ σ9, τ = nY9_init_N o σ9 ∧ σ9.2.1.length = o + 371 ∧ σ9.1 = σ.1 + 10657 ∧ rOK σ9 ∧ Ex σ σ9 o ∧ σ9.2.2.2.1 o = (fun _ => 0) ∧ σ9.2.2.2.1 (o + 1) = (fun _ => 0) ∧ σ9.2.2.2.1 (o + 3) = ((FX5_init_t (fun _ => 0)).2) ∧ σ9.2.2.2.1 (o + 22) = ((FX4_empty (fun _ => 0) (fun _ => 0)).2.1) ∧ σ9.2.2.2.1 (o + 35) = ((FX4_empty (fun _ => 0) (fun _ => 0)).2.2) ∧ σ9.2.2.2.1 (o + 36) = ((FX4_empty (fun _ => 0) (fun _ => 0)).2.1) ∧ σ9.2.2.2.1 (o + 49) = ((FX4_empty (fun _ => 0) (fun _ => 0)).2.2) ∧ σ9.2.2.2.1 (o + 54) = (upd (fun _ => 0) 0 0) ∧ σ9.2.2.2.1 (o + 61) = (fun _ => 0) ∧ σ9.2.2.2.1 (o + 65) = (upd (fun _ => 0) 0 1) ∧ σ9.2.2.2.1 (o + 72) = (fun _ => 0) ∧ σ9.2.2.2.1 (o + 80) = (upd (fun _ => 0) 0 0) ∧ σ9.2.2.2.1 (o + 87) = (fun _ => 0) ∧ σ9.2.2.2.1 (o + 91) = (upd (fun _ => 0) 0 1) ∧ σ9.2.2.2.1 (o + 98) = (fun _ => 0) ∧ σ9.2.2.2.1 (o + 102) = (fun _ => 0) ∧ σ9.2.2.2.1 (o + 108) = (upd (fun _ => 0) 0 0) ∧ σ9.2.2.2.1 (o + 119) = (upd (fun _ => 0) 0 1) ∧ σ9.2.2.2.1 (o + 134) = (upd (fun _ => 0) 0 0) ∧ σ9.2.2.2.1 (o + 145) = (upd (fun _ => 0) 0 1) ∧ σ9.2.2.2.1 (o + 160) = (upd (fun _ => 0) 0 0) ∧ σ9.2.2.2.1 (o + 171) = (upd (fun _ => 0) 0 1) ∧ σ9.2.2.2.1 (o + 186) = (upd (fun _ => 0) 0 0) ∧ σ9.2.2.2.1 (o + 197) = (upd (fun _ => 0) 0 1) ∧ σ9.2.2.2.1 (o + 212) = (upd (fun _ => 0) 0 0) ∧ σ9.2.2.2.1 (o + 223) = (upd (fun _ => 0) 0 1) ∧ σ9.2.2.2.1 (o + 238) = (upd (fun _ => 0) 0 0) ∧ σ9.2.2.2.1 (o + 249) = (upd (fun _ => 0) 0 1) ∧ σ9.2.2.2.1 (o + 264) = (upd (fun _ => 0) 0 0) ∧ σ9.2.2.2.1 (o + 275) = (upd (fun _ => 0) 0 1) ∧ σ9.2.2.2.1 (o + 290) = (upd (fun _ => 0) 0 0) ∧ σ9.2.2.2.1 (o + 301) = (upd (fun _ => 0) 0 1) ∧ σ9.2.2.2.1 (o + 312) = (fun _ => 0) ∧ σ9.2.2.2.1 (o + 317) = (upd (fun _ => 0) 0 0) ∧ σ9.2.2.2.1 (o + 324) = (fun _ => 0) ∧ σ9.2.2.2.1 (o + 328) = (upd (fun _ => 0) 0 1) ∧ σ9.2.2.2.1 (o + 335) = (fun _ => 0) ∧ σ9.2.2.2.1 (o + 343) = (upd (fun _ => 0) 0 0) ∧ σ9.2.2.2.1 (o + 350) = (fun _ => 0) ∧ σ9.2.2.2.1 (o + 354) = (upd (fun _ => 0) 0 1) ∧ σ9.2.2.2.1 (o + 361) = (fun _ => 0) ∧ σ9.2.2.2.1 (o + 365) = (fun _ => 0) ∧ σ9.2.2.2.1 (o + 370) = (fun _ => 0) ∧ σ9.2.1[o]? = some (9, 0) ∧ σ9.2.1[o + 1]? = some (21, 700) ∧ σ9.2.1[o + 312]? = some (26, 2) ∧ σ9.2.1[o + 365]? = some (22, 2) ∧ σ9.2.1[o + 370]? = some (20, 16) ∧ σ9.2.2.1 o 0 = some (o + 1) ∧ σ9.2.2.1 o 2 = some (o + 2) ∧ σ9.2.2.1 o 3 = some (o + 22) ∧ σ9.2.2.1 o 4 = some (o + 36) ∧ σ9.2.2.1 o 5 = some (o + 50) ∧ σ9.2.2.1 o 6 = some (o + 76) ∧ σ9.2.2.1 o 7 = some (o + 102) ∧ σ9.2.2.1 o 8 = some (o + 312) ∧ σ9.2.2.1 o 9 = some (o + 365) ∧ σ9.2.2.1 o 10 = some (o + 366) ∧ σ9.2.2.1 o 11 = some (o + 370) ∧ σ9.2.2.1 (o + 312) 0 = some (o + 313) ∧ σ9.2.2.1 (o + 312) 1 = some (o + 339) ∧ isRd (mBo σ9) (o + 2) ∧ isPrg (mBo σ9) (o + 22) ∧ isPrg (mBo σ9) (o + 36) ∧ isWorld (mBo σ9) (o + 50) ∧ isWorld (mBo σ9) (o + 76) ∧ isHi (mBo σ9) (o + 102) ∧ isWorld (mBo σ9) (o + 313) ∧ isWorld (mBo σ9) (o + 339) ∧ isWays (mBo σ9) (o + 366)) τ) (by omega) ?_ (fun r τ h => h)
  have hlay := mSt_lay (σ := σ35) [(o + 50, (σ35.2.2.2.1 (o + 50))), (o + 51, (σ35.2.2.2.1 (o + 51))), (o + 54, (upd (fun _ => 0) 0 0)), (o + 55, (σ35.2.2.2.1 (o + 55))), (o + 57, (σ35.2.2.2.1 (o + 57))), (o + 58, (σ35.2.2.2.1 (o + 58))), (o + 63, (σ35.2.2.2.1 (o + 63))), (o + 64, (σ35.2.2.2.1 (o + 64))), (o + 65, (upd (fun _ => 0) 0 1)), (o + 66, (σ35.2.2.2.1 (o + 66))), (o + 68, (σ35.2.2.2.1 (o + 68))), (o + 69, (σ35.2.2.2.1 (o + 69))), (o + 74, (σ35.2.2.2.1 (o + 74))), (o + 75, (σ35.2.2.2.1 (o + 75))), (o + 22, ((FX4_empty (fun _ => 0) (fun _ => 0)).2.1)), (o + 31, (σ35.2.2.2.1 (o + 31))), (o + 32, (σ35.2.2.2.1 (o + 32))), (o + 33, (σ35.2.2.2.1 (o + 33))), (o + 34, (σ35.2.2.2.1 (o + 34))), (o + 35, ((FX4_empty (fun _ => 0) (fun _ => 0)).2.2))] (List.forall_mem_cons.mpr ⟨rfl, (List.forall_mem_cons.mpr ⟨rfl, (List.forall_mem_cons.mpr ⟨R_54_35, (List.forall_mem_cons.mpr ⟨rfl, (List.forall_mem_cons.mpr ⟨rfl, (List.forall_mem_cons.mpr ⟨rfl, (List.forall_mem_cons.mpr ⟨rfl, (List.forall_mem_cons.mpr ⟨rfl, (List.forall_mem_cons.mpr ⟨R_65_35, (List.forall_mem_cons.mpr ⟨rfl, (List.forall_mem_cons.mpr ⟨rfl, (List.forall_mem_cons.mpr ⟨rfl, (List.forall_mem_cons.mpr ⟨rfl, (List.forall_mem_cons.mpr ⟨rfl, (List.forall_mem_cons.mpr ⟨R_22_35, (List.forall_mem_cons.mpr ⟨rfl, (List.forall_mem_cons.mpr ⟨rfl, (List.forall_mem_cons.mpr ⟨rfl, (List.forall_mem_cons.mpr ⟨rfl, (List.forall_mem_cons.mpr ⟨R_35_35, (fun _ h => absurd h List.not_mem_nil)⟩)⟩)⟩)⟩)⟩)⟩)⟩)⟩)⟩)⟩)⟩)⟩)⟩)⟩)⟩)⟩)⟩)⟩)⟩)⟩)
  rw [← hlay]
  clear hlay
  exact tX9_init_t (d := d + 1) (B := mBo σ35) K_0_35 S_3_35 G_0_5_35 (by omega) S_1_35 G_0_3_35 (by omega) (by omega) (σ35.2.2.2.1 (o + 50)) (σ35.2.2.2.1 (o + 51)) (upd (fun _ => 0) 0 0) (σ35.2.2.2.1 (o + 55)) (σ35.2.2.2.1 (o + 57)) (σ35.2.2.2.1 (o + 58)) (σ35.2.2.2.1 (o + 63)) (σ35.2.2.2.1 (o + 64)) (upd (fun _ => 0) 0 1) (σ35.2.2.2.1 (o + 66)) (σ35.2.2.2.1 (o + 68)) (σ35.2.2.2.1 (o + 69)) (σ35.2.2.2.1 (o + 74)) (σ35.2.2.2.1 (o + 75)) ((FX4_empty (fun _ => 0) (fun _ => 0)).2.1) (σ35.2.2.2.1 (o + 31)) (σ35.2.2.2.1 (o + 32)) (σ35.2.2.2.1 (o + 33)) (σ35.2.2.2.1 (o + 34)) ((FX4_empty (fun _ => 0) (fun _ => 0)).2.2) (hT (σ35.2.2.2.1 (o + 50)) (σ35.2.2.2.1 (o + 51)) (σ35.2.2.2.1 (o + 55)) (σ35.2.2.2.1 (o + 57)) (σ35.2.2.2.1 (o + 58)) (σ35.2.2.2.1 (o + 63)) (σ35.2.2.2.1 (o + 64)) (σ35.2.2.2.1 (o + 66)) (σ35.2.2.2.1 (o + 68)) (σ35.2.2.2.1 (o + 69)) (σ35.2.2.2.1 (o + 74)) (σ35.2.2.2.1 (o + 75)) (σ35.2.2.2.1 (o + 31)) (σ35.2.2.2.1 (o + 32)) (σ35.2.2.2.1 (o + 33)) (σ35.2.2.2.1 (o + 34))) ⟨rfl, σ35, rfl, N_35, T_35, O_35, X_35, R_0_35, R_1_35, R_3_35, R_22_35, R_35_35, R_36_35, R_49_35, R_54_35, R_61_35, R_65_35, R_72_35, R_80_35, R_87_35, R_91_35, R_98_35, R_102_35, R_108_35, R_119_35, R_134_35, R_145_35, R_160_35, R_171_35, R_186_35, R_197_35, R_212_35, R_223_35, R_238_35, R_249_35, R_264_35, R_275_35, R_290_35, R_301_35, R_312_35, R_317_35, R_324_35, R_328_35, R_335_35, R_343_35, R_350_35, R_354_35, R_361_35, R_365_35, R_370_35, K_0_35, K_1_35, K_312_35, K_365_35, K_370_35, G_0_0_35, G_0_2_35, G_0_3_35, G_0_4_35, G_0_5_35, G_0_6_35, G_0_7_35, G_0_8_35, G_0_9_35, G_0_10_35, G_0_11_35, G_312_0_35, G_312_1_35, S_0_35, S_1_35, S_2_35, S_3_35, S_4_35, S_5_35, S_6_35, S_7_35, S_8_35⟩
def nY10_init_N (o : Nat) (σ9 : mMH) : mMH :=
  mH (mBo σ9) (mE σ9.2.2.2.1 [(o, (FX10_init_t 0 (fun _ => 0) (σ9.2.2.2.2 (o + 1)) (fun _ => 0) (fun _ => 0) (fun _ => 0) (fun _ => 0) (fun _ => 0) (fun _ => 0) (fun _ => 0) (fun _ => 0) (fun _ => 0) (fun _ => 0) (fun _ => 0) (fun _ => 0)).2.1), (o + 3, (fun _ => 0)), (o + 4, (fun _ => 0)), (o + 5, (fun _ => 0)), (o + 6, (FX10_init_t 0 (fun _ => 0) (σ9.2.2.2.2 (o + 1)) (fun _ => 0) (fun _ => 0) (fun _ => 0) (fun _ => 0) (fun _ => 0) (fun _ => 0) (fun _ => 0) (fun _ => 0) (fun _ => 0) (fun _ => 0) (fun _ => 0) (fun _ => 0)).2.2.2.1), (o + 7, (fun _ => 0)), (o + 8, (fun _ => 0)), (o + 9, (FX10_init_t 0 (fun _ => 0) (σ9.2.2.2.2 (o + 1)) (fun _ => 0) (fun _ => 0) (fun _ => 0) (fun _ => 0) (fun _ => 0) (fun _ => 0) (fun _ => 0) (fun _ => 0) (fun _ => 0) (fun _ => 0) (fun _ => 0) (fun _ => 0)).2.2.2.2.1), (o + 10, (FX10_init_t 0 (fun _ => 0) (σ9.2.2.2.2 (o + 1)) (fun _ => 0) (fun _ => 0) (fun _ => 0) (fun _ => 0) (fun _ => 0) (fun _ => 0) (fun _ => 0) (fun _ => 0) (fun _ => 0) (fun _ => 0) (fun _ => 0) (fun _ => 0)).2.2.2.2.2.1), (o + 11, (FX10_init_t 0 (fun _ => 0) (σ9.2.2.2.2 (o + 1)) (fun _ => 0) (fun _ => 0) (fun _ => 0) (fun _ => 0) (fun _ => 0) (fun _ => 0) (fun _ => 0) (fun _ => 0) (fun _ => 0) (fun _ => 0) (fun _ => 0) (fun _ => 0)).2.2.2.2.2.2.1), (o + 12, (FX10_init_t 0 (fun _ => 0) (σ9.2.2.2.2 (o + 1)) (fun _ => 0) (fun _ => 0) (fun _ => 0) (fun _ => 0) (fun _ => 0) (fun _ => 0) (fun _ => 0) (fun _ => 0) (fun _ => 0) (fun _ => 0) (fun _ => 0) (fun _ => 0)).2.2.2.2.2.2.2.1), (o + 17, (FX10_init_t 0 (fun _ => 0) (σ9.2.2.2.2 (o + 1)) (fun _ => 0) (fun _ => 0) (fun _ => 0) (fun _ => 0) (fun _ => 0) (fun _ => 0) (fun _ => 0) (fun _ => 0) (fun _ => 0) (fun _ => 0) (fun _ => 0) (fun _ => 0)).2.2.2.2.2.2.2.2.1), (o + 22, (FX10_init_t 0 (fun _ => 0) (σ9.2.2.2.2 (o + 1)) (fun _ => 0) (fun _ => 0) (fun _ => 0) (fun _ => 0) (fun _ => 0) (fun _ => 0) (fun _ => 0) (fun _ => 0) (fun _ => 0) (fun _ => 0) (fun _ => 0) (fun _ => 0)).2.2.2.2.2.2.2.2.2)]) (mEw σ9.2.2.2.2 [(o + 1, (FX10_init_t 0 (fun _ => 0) (σ9.2.2.2.2 (o + 1)) (fun _ => 0) (fun _ => 0) (fun _ => 0) (fun _ => 0) (fun _ => 0) (fun _ => 0) (fun _ => 0) (fun _ => 0) (fun _ => 0) (fun _ => 0) (fun _ => 0) (fun _ => 0)).2.2.1)])
set_option maxRecDepth 20000 in
set_option maxHeartbeats 4000000 in
theorem nY10_init {d : Nat} {σ : mMH} {o : Nat} (hL : σ.2.1.length = o + 1) (hO : rOK σ) (hR : σ.2.2.2.1 o = fun _ => 0) (hK : σ.2.1[o]? = some (10, 0)) (hz : o + 27 ≤ 1000000) (hT : ∀ (u0 : mFl), OX10_init_t 0 (fun _ => 0) u0 (fun _ => 0) (fun _ => 0) (fun _ => 0) (fun _ => 0) (fun _ => 0) (fun _ => 0) (fun _ => 0) (fun _ => 0) (fun _ => 0) (fun _ => 0) (fun _ => 0) (fun _ => 0)) : CC (d + 5) 160 [.ref o] σ (fun τ => ∃ σ9, τ = nY10_init_N o σ9 ∧ σ9.2.1.length = o + 27 ∧ σ9.1 = σ.1 + 8817 ∧ rOK σ9 ∧ Ex σ σ9 o ∧ isMod (mBo σ9) o ∧ σ9.2.2.2.1 o = (fun _ => 0) ∧ σ9.2.2.2.1 (o + 1) = (fun _ => 0) ∧ σ9.2.2.2.1 (o + 2) = (fun _ => 0) ∧ σ9.2.2.2.1 (o + 3) = (fun _ => 0) ∧ σ9.2.2.2.1 (o + 4) = (fun _ => 0) ∧ σ9.2.2.2.1 (o + 5) = (fun _ => 0) ∧ σ9.2.2.2.1 (o + 6) = (fun _ => 0) ∧ σ9.2.2.2.1 (o + 7) = (fun _ => 0) ∧ σ9.2.2.2.1 (o + 8) = (fun _ => 0) ∧ σ9.2.2.2.1 (o + 9) = (fun _ => 0) ∧ σ9.2.2.2.1 (o + 10) = (fun _ => 0) ∧ σ9.2.2.2.1 (o + 11) = (fun _ => 0) ∧ σ9.2.2.2.1 (o + 12) = (fun _ => 0) ∧ σ9.2.2.2.1 (o + 13) = (fun _ => 0) ∧ σ9.2.2.2.1 (o + 14) = (fun _ => 0) ∧ σ9.2.2.2.1 (o + 15) = (fun _ => 0) ∧ σ9.2.2.2.1 (o + 16) = (fun _ => 0) ∧ σ9.2.2.2.1 (o + 17) = (fun _ => 0) ∧ σ9.2.2.2.1 (o + 18) = (fun _ => 0) ∧ σ9.2.2.2.1 (o + 19) = (fun _ => 0) ∧ σ9.2.2.2.1 (o + 20) = (fun _ => 0) ∧ σ9.2.2.2.1 (o + 21) = (fun _ => 0) ∧ σ9.2.2.2.1 (o + 22) = (fun _ => 0) ∧ σ9.2.2.2.1 (o + 23) = (fun _ => 0) ∧ σ9.2.2.2.1 (o + 24) = (fun _ => 0) ∧ σ9.2.2.2.1 (o + 25) = (fun _ => 0) ∧ σ9.2.2.2.1 (o + 26) = (fun _ => 0)) := by
  have K_0_0 := hK
  have R_0_0 := hR
  have O_0 := hO
  have N_0 := hL
  have T_0 : σ.1 = σ.1 + 0 := rfl
  have X_0 : Ex σ σ o := Ex.rf
  refine c_begin mt_160 (by intro a ha; simp only [List.mem_cons, List.not_mem_nil, or_false] at ha; rcases ha with rfl <;> rfl) (Nat.le_of_ble_eq_true rfl) ?_
  show RC _ _ _ [some (.ref o), none, none, none] [] σ _
  refine c_aload rfl ?_
  refine c_obj (Nat.le_of_ble_eq_true rfl) ?_
  refine c_aload rfl ?_
  refine c_int ?_
  refine c_newa (t := 3) (z := 43) (by decide) (by decide) (mOut_lt (ltL [o] rfl (List.forall_mem_cons.mpr ⟨by omega, (fun _ h => absurd h List.not_mem_nil)⟩)) (ltS [o] rfl (List.forall_mem_cons.mpr ⟨by omega, (fun _ h => absurd h List.not_mem_nil)⟩))) O_0 ?_
  rw [show ((43 : Int32)).toNatClampNeg = 43 by decide]
  obtain ⟨σ1, e1⟩ : ∃ x, x = mNew σ 23 43 43 := ⟨_, rfl⟩
  rw [← e1, show σ.2.1.length = o + 1 by omega]
  have N_1 : σ1.2.1.length = o + 2 := by rw [e1, len_new]; omega
  have T_1 : σ1.1 = σ.1 + 43 := by rw [e1]; show σ.1 + 43 = _; omega
  have O_1 : rOK σ1 := by rw [e1]; exact rOK_new O_0
  have X_1 : Ex σ σ1 o := by rw [e1]; exact X_0.new (by omega)
  have K_0_1 : σ1.2.1[o]? = some (10, 0) := by rw [e1]; exact k_new K_0_0
  have R_0_1 : σ1.2.2.2.1 o = fun _ => 0 := by rw [e1]; exact (mup_ne (by omega)).trans R_0_0
  have K_1_1 : σ1.2.1[o + 1]? = some (23, 43) := by rw [e1, ← show σ.2.1.length = o + 1 by omega]; exact k_newS
  have R_1_1 : σ1.2.2.2.1 (o + 1) = fun _ => 0 := by rw [e1, ← show σ.2.1.length = o + 1 by omega]; exact mup_eq
  clear K_0_0 R_0_0 N_0 T_0 O_0 X_0 e1
  show RC _ _ _ [some (.ref o), none, none, none] [.ref (o + 1), .ref o] σ1 _
  refine c_putr K_0_1 ?_
  obtain ⟨σ2, e2⟩ : ∃ x, x = mPr σ1 o 2 (some (o + 1)) := ⟨_, rfl⟩
  rw [← e2]
  have N_2 : σ2.2.1.length = o + 2 := by rw [e2]; exact N_1
  have T_2 : σ2.1 = σ.1 + 43 := by rw [e2]; exact T_1
  have O_2 : rOK σ2 := by rw [e2]; exact rOK_pr O_1 (by omega)
  have X_2 : Ex σ σ2 o := by rw [e2]; exact X_1.pr (by omega)
  have K_0_2 : σ2.2.1[o]? = some (10, 0) := by rw [e2]; exact K_0_1
  have K_1_2 : σ2.2.1[o + 1]? = some (23, 43) := by rw [e2]; exact K_1_1
  have R_0_2 : σ2.2.2.2.1 o = fun _ => 0 := by rw [e2]; exact R_0_1
  have R_1_2 : σ2.2.2.2.1 (o + 1) = fun _ => 0 := by rw [e2]; exact R_1_1
  have G_0_2_2 : σ2.2.2.1 o 2 = some (o + 1) := by rw [e2]; exact g_prS
  clear K_0_1 K_1_1 R_0_1 R_1_1 N_1 T_1 O_1 X_1 e2 σ1
  show RC _ _ _ [some (.ref o), none, none, none] [] σ2 _
  refine c_aload rfl ?_
  refine c_int ?_
  refine c_newa (t := 0) (z := 700) (by decide) (by decide) (mOut_lt (ltL [o] rfl (List.forall_mem_cons.mpr ⟨by omega, (fun _ h => absurd h List.not_mem_nil)⟩)) (ltS [o] rfl (List.forall_mem_cons.mpr ⟨by omega, (fun _ h => absurd h List.not_mem_nil)⟩))) O_2 ?_
  rw [show ((700 : Int32)).toNatClampNeg = 700 by decide]
  obtain ⟨σ3, e3⟩ : ∃ x, x = mNew σ2 20 700 700 := ⟨_, rfl⟩
  rw [← e3, show σ2.2.1.length = o + 2 by omega]
  have N_3 : σ3.2.1.length = o + 3 := by rw [e3, len_new]; omega
  have T_3 : σ3.1 = σ.1 + 743 := by rw [e3]; show σ2.1 + 700 = _; omega
  have O_3 : rOK σ3 := by rw [e3]; exact rOK_new O_2
  have X_3 : Ex σ σ3 o := by rw [e3]; exact X_2.new (by omega)
  have K_0_3 : σ3.2.1[o]? = some (10, 0) := by rw [e3]; exact k_new K_0_2
  have K_1_3 : σ3.2.1[o + 1]? = some (23, 43) := by rw [e3]; exact k_new K_1_2
  have G_0_2_3 : σ3.2.2.1 o 2 = some (o + 1) := by rw [e3]; exact g_new (by omega) G_0_2_2
  have R_0_3 : σ3.2.2.2.1 o = fun _ => 0 := by rw [e3]; exact (mup_ne (by omega)).trans R_0_2
  have R_1_3 : σ3.2.2.2.1 (o + 1) = fun _ => 0 := by rw [e3]; exact (mup_ne (by omega)).trans R_1_2
  have K_2_3 : σ3.2.1[o + 2]? = some (20, 700) := by rw [e3, ← show σ2.2.1.length = o + 2 by omega]; exact k_newS
  have R_2_3 : σ3.2.2.2.1 (o + 2) = fun _ => 0 := by rw [e3, ← show σ2.2.1.length = o + 2 by omega]; exact mup_eq
  clear K_0_2 K_1_2 G_0_2_2 R_0_2 R_1_2 N_2 T_2 O_2 X_2 e3 σ2
  show RC _ _ _ [some (.ref o), none, none, none] [.ref (o + 2), .ref o] σ3 _
  refine c_putr K_0_3 ?_
  obtain ⟨σ4, e4⟩ : ∃ x, x = mPr σ3 o 3 (some (o + 2)) := ⟨_, rfl⟩
  rw [← e4]
  have N_4 : σ4.2.1.length = o + 3 := by rw [e4]; exact N_3
  have T_4 : σ4.1 = σ.1 + 743 := by rw [e4]; exact T_3
  have O_4 : rOK σ4 := by rw [e4]; exact rOK_pr O_3 (by omega)
  have X_4 : Ex σ σ4 o := by rw [e4]; exact X_3.pr (by omega)
  have K_0_4 : σ4.2.1[o]? = some (10, 0) := by rw [e4]; exact K_0_3
  have K_1_4 : σ4.2.1[o + 1]? = some (23, 43) := by rw [e4]; exact K_1_3
  have K_2_4 : σ4.2.1[o + 2]? = some (20, 700) := by rw [e4]; exact K_2_3
  have G_0_2_4 : σ4.2.2.1 o 2 = some (o + 1) := by rw [e4]; exact g_prK (by decide) G_0_2_3
  have R_0_4 : σ4.2.2.2.1 o = fun _ => 0 := by rw [e4]; exact R_0_3
  have R_1_4 : σ4.2.2.2.1 (o + 1) = fun _ => 0 := by rw [e4]; exact R_1_3
  have R_2_4 : σ4.2.2.2.1 (o + 2) = fun _ => 0 := by rw [e4]; exact R_2_3
  have G_0_3_4 : σ4.2.2.1 o 3 = some (o + 2) := by rw [e4]; exact g_prS
  clear K_0_3 K_1_3 K_2_3 G_0_2_3 R_0_3 R_1_3 R_2_3 N_3 T_3 O_3 X_3 e4 σ3
  show RC _ _ _ [some (.ref o), none, none, none] [] σ4 _
  refine c_aload rfl ?_
  refine c_int ?_
  refine c_newa (t := 0) (z := 100) (by decide) (by decide) (mOut_lt (ltL [o] rfl (List.forall_mem_cons.mpr ⟨by omega, (fun _ h => absurd h List.not_mem_nil)⟩)) (ltS [o] rfl (List.forall_mem_cons.mpr ⟨by omega, (fun _ h => absurd h List.not_mem_nil)⟩))) O_4 ?_
  rw [show ((100 : Int32)).toNatClampNeg = 100 by decide]
  obtain ⟨σ5, e5⟩ : ∃ x, x = mNew σ4 20 100 100 := ⟨_, rfl⟩
  rw [← e5, show σ4.2.1.length = o + 3 by omega]
  have N_5 : σ5.2.1.length = o + 4 := by rw [e5, len_new]; omega
  have T_5 : σ5.1 = σ.1 + 843 := by rw [e5]; show σ4.1 + 100 = _; omega
  have O_5 : rOK σ5 := by rw [e5]; exact rOK_new O_4
  have X_5 : Ex σ σ5 o := by rw [e5]; exact X_4.new (by omega)
  have K_0_5 : σ5.2.1[o]? = some (10, 0) := by rw [e5]; exact k_new K_0_4
  have K_1_5 : σ5.2.1[o + 1]? = some (23, 43) := by rw [e5]; exact k_new K_1_4
  have K_2_5 : σ5.2.1[o + 2]? = some (20, 700) := by rw [e5]; exact k_new K_2_4
  have G_0_2_5 : σ5.2.2.1 o 2 = some (o + 1) := by rw [e5]; exact g_new (by omega) G_0_2_4
  have G_0_3_5 : σ5.2.2.1 o 3 = some (o + 2) := by rw [e5]; exact g_new (by omega) G_0_3_4
  have R_0_5 : σ5.2.2.2.1 o = fun _ => 0 := by rw [e5]; exact (mup_ne (by omega)).trans R_0_4
  have R_1_5 : σ5.2.2.2.1 (o + 1) = fun _ => 0 := by rw [e5]; exact (mup_ne (by omega)).trans R_1_4
  have R_2_5 : σ5.2.2.2.1 (o + 2) = fun _ => 0 := by rw [e5]; exact (mup_ne (by omega)).trans R_2_4
  have K_3_5 : σ5.2.1[o + 3]? = some (20, 100) := by rw [e5, ← show σ4.2.1.length = o + 3 by omega]; exact k_newS
  have R_3_5 : σ5.2.2.2.1 (o + 3) = fun _ => 0 := by rw [e5, ← show σ4.2.1.length = o + 3 by omega]; exact mup_eq
  clear K_0_4 K_1_4 K_2_4 G_0_2_4 G_0_3_4 R_0_4 R_1_4 R_2_4 N_4 T_4 O_4 X_4 e5 σ4
  show RC _ _ _ [some (.ref o), none, none, none] [.ref (o + 3), .ref o] σ5 _
  refine c_putr K_0_5 ?_
  obtain ⟨σ6, e6⟩ : ∃ x, x = mPr σ5 o 13 (some (o + 3)) := ⟨_, rfl⟩
  rw [← e6]
  have N_6 : σ6.2.1.length = o + 4 := by rw [e6]; exact N_5
  have T_6 : σ6.1 = σ.1 + 843 := by rw [e6]; exact T_5
  have O_6 : rOK σ6 := by rw [e6]; exact rOK_pr O_5 (by omega)
  have X_6 : Ex σ σ6 o := by rw [e6]; exact X_5.pr (by omega)
  have K_0_6 : σ6.2.1[o]? = some (10, 0) := by rw [e6]; exact K_0_5
  have K_1_6 : σ6.2.1[o + 1]? = some (23, 43) := by rw [e6]; exact K_1_5
  have K_2_6 : σ6.2.1[o + 2]? = some (20, 700) := by rw [e6]; exact K_2_5
  have K_3_6 : σ6.2.1[o + 3]? = some (20, 100) := by rw [e6]; exact K_3_5
  have G_0_2_6 : σ6.2.2.1 o 2 = some (o + 1) := by rw [e6]; exact g_prK (by decide) G_0_2_5
  have G_0_3_6 : σ6.2.2.1 o 3 = some (o + 2) := by rw [e6]; exact g_prK (by decide) G_0_3_5
  have R_0_6 : σ6.2.2.2.1 o = fun _ => 0 := by rw [e6]; exact R_0_5
  have R_1_6 : σ6.2.2.2.1 (o + 1) = fun _ => 0 := by rw [e6]; exact R_1_5
  have R_2_6 : σ6.2.2.2.1 (o + 2) = fun _ => 0 := by rw [e6]; exact R_2_5
  have R_3_6 : σ6.2.2.2.1 (o + 3) = fun _ => 0 := by rw [e6]; exact R_3_5
  have G_0_13_6 : σ6.2.2.1 o 13 = some (o + 3) := by rw [e6]; exact g_prS
  clear K_0_5 K_1_5 K_2_5 K_3_5 G_0_2_5 G_0_3_5 R_0_5 R_1_5 R_2_5 R_3_5 N_5 T_5 O_5 X_5 e6 σ5
  show RC _ _ _ [some (.ref o), none, none, none] [] σ6 _
  refine c_aload rfl ?_
  refine c_int ?_
  refine c_newa (t := 0) (z := 100) (by decide) (by decide) (mOut_lt (ltL [o] rfl (List.forall_mem_cons.mpr ⟨by omega, (fun _ h => absurd h List.not_mem_nil)⟩)) (ltS [o] rfl (List.forall_mem_cons.mpr ⟨by omega, (fun _ h => absurd h List.not_mem_nil)⟩))) O_6 ?_
  rw [show ((100 : Int32)).toNatClampNeg = 100 by decide]
  obtain ⟨σ7, e7⟩ : ∃ x, x = mNew σ6 20 100 100 := ⟨_, rfl⟩
  rw [← e7, show σ6.2.1.length = o + 4 by omega]
  have N_7 : σ7.2.1.length = o + 5 := by rw [e7, len_new]; omega
  have T_7 : σ7.1 = σ.1 + 943 := by rw [e7]; show σ6.1 + 100 = _; omega
  have O_7 : rOK σ7 := by rw [e7]; exact rOK_new O_6
  have X_7 : Ex σ σ7 o := by rw [e7]; exact X_6.new (by omega)
  have K_0_7 : σ7.2.1[o]? = some (10, 0) := by rw [e7]; exact k_new K_0_6
  have K_1_7 : σ7.2.1[o + 1]? = some (23, 43) := by rw [e7]; exact k_new K_1_6
  have K_2_7 : σ7.2.1[o + 2]? = some (20, 700) := by rw [e7]; exact k_new K_2_6
  have K_3_7 : σ7.2.1[o + 3]? = some (20, 100) := by rw [e7]; exact k_new K_3_6
  have G_0_2_7 : σ7.2.2.1 o 2 = some (o + 1) := by rw [e7]; exact g_new (by omega) G_0_2_6
  have G_0_3_7 : σ7.2.2.1 o 3 = some (o + 2) := by rw [e7]; exact g_new (by omega) G_0_3_6
  have G_0_13_7 : σ7.2.2.1 o 13 = some (o + 3) := by rw [e7]; exact g_new (by omega) G_0_13_6
  have R_0_7 : σ7.2.2.2.1 o = fun _ => 0 := by rw [e7]; exact (mup_ne (by omega)).trans R_0_6
  have R_1_7 : σ7.2.2.2.1 (o + 1) = fun _ => 0 := by rw [e7]; exact (mup_ne (by omega)).trans R_1_6
  have R_2_7 : σ7.2.2.2.1 (o + 2) = fun _ => 0 := by rw [e7]; exact (mup_ne (by omega)).trans R_2_6
  have R_3_7 : σ7.2.2.2.1 (o + 3) = fun _ => 0 := by rw [e7]; exact (mup_ne (by omega)).trans R_3_6
  have K_4_7 : σ7.2.1[o + 4]? = some (20, 100) := by rw [e7, ← show σ6.2.1.length = o + 4 by omega]; exact k_newS
  have R_4_7 : σ7.2.2.2.1 (o + 4) = fun _ => 0 := by rw [e7, ← show σ6.2.1.length = o + 4 by omega]; exact mup_eq
  clear K_0_6 K_1_6 K_2_6 K_3_6 G_0_2_6 G_0_3_6 G_0_13_6 R_0_6 R_1_6 R_2_6 R_3_6 N_6 T_6 O_6 X_6 e7 σ6
  show RC _ _ _ [some (.ref o), none, none, none] [.ref (o + 4), .ref o] σ7 _
  refine c_putr K_0_7 ?_
  obtain ⟨σ8, e8⟩ : ∃ x, x = mPr σ7 o 14 (some (o + 4)) := ⟨_, rfl⟩
  rw [← e8]
  have N_8 : σ8.2.1.length = o + 5 := by rw [e8]; exact N_7
  have T_8 : σ8.1 = σ.1 + 943 := by rw [e8]; exact T_7
  have O_8 : rOK σ8 := by rw [e8]; exact rOK_pr O_7 (by omega)
  have X_8 : Ex σ σ8 o := by rw [e8]; exact X_7.pr (by omega)
  have K_0_8 : σ8.2.1[o]? = some (10, 0) := by rw [e8]; exact K_0_7
  have K_1_8 : σ8.2.1[o + 1]? = some (23, 43) := by rw [e8]; exact K_1_7
  have K_2_8 : σ8.2.1[o + 2]? = some (20, 700) := by rw [e8]; exact K_2_7
  have K_3_8 : σ8.2.1[o + 3]? = some (20, 100) := by rw [e8]; exact K_3_7
  have K_4_8 : σ8.2.1[o + 4]? = some (20, 100) := by rw [e8]; exact K_4_7
  have G_0_2_8 : σ8.2.2.1 o 2 = some (o + 1) := by rw [e8]; exact g_prK (by decide) G_0_2_7
  have G_0_3_8 : σ8.2.2.1 o 3 = some (o + 2) := by rw [e8]; exact g_prK (by decide) G_0_3_7
  have G_0_13_8 : σ8.2.2.1 o 13 = some (o + 3) := by rw [e8]; exact g_prK (by decide) G_0_13_7
  have R_0_8 : σ8.2.2.2.1 o = fun _ => 0 := by rw [e8]; exact R_0_7
  have R_1_8 : σ8.2.2.2.1 (o + 1) = fun _ => 0 := by rw [e8]; exact R_1_7
  have R_2_8 : σ8.2.2.2.1 (o + 2) = fun _ => 0 := by rw [e8]; exact R_2_7
  have R_3_8 : σ8.2.2.2.1 (o + 3) = fun _ => 0 := by rw [e8]; exact R_3_7
  have R_4_8 : σ8.2.2.2.1 (o + 4) = fun _ => 0 := by rw [e8]; exact R_4_7
  have G_0_14_8 : σ8.2.2.1 o 14 = some (o + 4) := by rw [e8]; exact g_prS
  clear K_0_7 K_1_7 K_2_7 K_3_7 K_4_7 G_0_2_7 G_0_3_7 G_0_13_7 R_0_7 R_1_7 R_2_7 R_3_7 R_4_7 N_7 T_7 O_7 X_7 e8 σ7
  show RC _ _ _ [some (.ref o), none, none, none] [] σ8 _
  refine c_aload rfl ?_
  refine c_int ?_
  refine c_newa (t := 0) (z := 101) (by decide) (by decide) (mOut_lt (ltL [o] rfl (List.forall_mem_cons.mpr ⟨by omega, (fun _ h => absurd h List.not_mem_nil)⟩)) (ltS [o] rfl (List.forall_mem_cons.mpr ⟨by omega, (fun _ h => absurd h List.not_mem_nil)⟩))) O_8 ?_
  rw [show ((101 : Int32)).toNatClampNeg = 101 by decide]
  obtain ⟨σ9, e9⟩ : ∃ x, x = mNew σ8 20 101 101 := ⟨_, rfl⟩
  rw [← e9, show σ8.2.1.length = o + 5 by omega]
  have N_9 : σ9.2.1.length = o + 6 := by rw [e9, len_new]; omega
  have T_9 : σ9.1 = σ.1 + 1044 := by rw [e9]; show σ8.1 + 101 = _; omega
  have O_9 : rOK σ9 := by rw [e9]; exact rOK_new O_8
  have X_9 : Ex σ σ9 o := by rw [e9]; exact X_8.new (by omega)
  have K_0_9 : σ9.2.1[o]? = some (10, 0) := by rw [e9]; exact k_new K_0_8
  have K_1_9 : σ9.2.1[o + 1]? = some (23, 43) := by rw [e9]; exact k_new K_1_8
  have K_2_9 : σ9.2.1[o + 2]? = some (20, 700) := by rw [e9]; exact k_new K_2_8
  have K_3_9 : σ9.2.1[o + 3]? = some (20, 100) := by rw [e9]; exact k_new K_3_8
  have K_4_9 : σ9.2.1[o + 4]? = some (20, 100) := by rw [e9]; exact k_new K_4_8
  have G_0_2_9 : σ9.2.2.1 o 2 = some (o + 1) := by rw [e9]; exact g_new (by omega) G_0_2_8
  have G_0_3_9 : σ9.2.2.1 o 3 = some (o + 2) := by rw [e9]; exact g_new (by omega) G_0_3_8
  have G_0_13_9 : σ9.2.2.1 o 13 = some (o + 3) := by rw [e9]; exact g_new (by omega) G_0_13_8
  have G_0_14_9 : σ9.2.2.1 o 14 = some (o + 4) := by rw [e9]; exact g_new (by omega) G_0_14_8
  have R_0_9 : σ9.2.2.2.1 o = fun _ => 0 := by rw [e9]; exact (mup_ne (by omega)).trans R_0_8
  have R_1_9 : σ9.2.2.2.1 (o + 1) = fun _ => 0 := by rw [e9]; exact (mup_ne (by omega)).trans R_1_8
  have R_2_9 : σ9.2.2.2.1 (o + 2) = fun _ => 0 := by rw [e9]; exact (mup_ne (by omega)).trans R_2_8
  have R_3_9 : σ9.2.2.2.1 (o + 3) = fun _ => 0 := by rw [e9]; exact (mup_ne (by omega)).trans R_3_8
  have R_4_9 : σ9.2.2.2.1 (o + 4) = fun _ => 0 := by rw [e9]; exact (mup_ne (by omega)).trans R_4_8
  have K_5_9 : σ9.2.1[o + 5]? = some (20, 101) := by rw [e9, ← show σ8.2.1.length = o + 5 by omega]; exact k_newS
  have R_5_9 : σ9.2.2.2.1 (o + 5) = fun _ => 0 := by rw [e9, ← show σ8.2.1.length = o + 5 by omega]; exact mup_eq
  clear K_0_8 K_1_8 K_2_8 K_3_8 K_4_8 G_0_2_8 G_0_3_8 G_0_13_8 G_0_14_8 R_0_8 R_1_8 R_2_8 R_3_8 R_4_8 N_8 T_8 O_8 X_8 e9 σ8
  show RC _ _ _ [some (.ref o), none, none, none] [.ref (o + 5), .ref o] σ9 _
  refine c_putr K_0_9 ?_
  obtain ⟨σ10, e10⟩ : ∃ x, x = mPr σ9 o 15 (some (o + 5)) := ⟨_, rfl⟩
  rw [← e10]
  have N_10 : σ10.2.1.length = o + 6 := by rw [e10]; exact N_9
  have T_10 : σ10.1 = σ.1 + 1044 := by rw [e10]; exact T_9
  have O_10 : rOK σ10 := by rw [e10]; exact rOK_pr O_9 (by omega)
  have X_10 : Ex σ σ10 o := by rw [e10]; exact X_9.pr (by omega)
  have K_0_10 : σ10.2.1[o]? = some (10, 0) := by rw [e10]; exact K_0_9
  have K_1_10 : σ10.2.1[o + 1]? = some (23, 43) := by rw [e10]; exact K_1_9
  have K_2_10 : σ10.2.1[o + 2]? = some (20, 700) := by rw [e10]; exact K_2_9
  have K_3_10 : σ10.2.1[o + 3]? = some (20, 100) := by rw [e10]; exact K_3_9
  have K_4_10 : σ10.2.1[o + 4]? = some (20, 100) := by rw [e10]; exact K_4_9
  have K_5_10 : σ10.2.1[o + 5]? = some (20, 101) := by rw [e10]; exact K_5_9
  have G_0_2_10 : σ10.2.2.1 o 2 = some (o + 1) := by rw [e10]; exact g_prK (by decide) G_0_2_9
  have G_0_3_10 : σ10.2.2.1 o 3 = some (o + 2) := by rw [e10]; exact g_prK (by decide) G_0_3_9
  have G_0_13_10 : σ10.2.2.1 o 13 = some (o + 3) := by rw [e10]; exact g_prK (by decide) G_0_13_9
  have G_0_14_10 : σ10.2.2.1 o 14 = some (o + 4) := by rw [e10]; exact g_prK (by decide) G_0_14_9
  have R_0_10 : σ10.2.2.2.1 o = fun _ => 0 := by rw [e10]; exact R_0_9
  have R_1_10 : σ10.2.2.2.1 (o + 1) = fun _ => 0 := by rw [e10]; exact R_1_9
  have R_2_10 : σ10.2.2.2.1 (o + 2) = fun _ => 0 := by rw [e10]; exact R_2_9
  have R_3_10 : σ10.2.2.2.1 (o + 3) = fun _ => 0 := by rw [e10]; exact R_3_9
  have R_4_10 : σ10.2.2.2.1 (o + 4) = fun _ => 0 := by rw [e10]; exact R_4_9
  have R_5_10 : σ10.2.2.2.1 (o + 5) = fun _ => 0 := by rw [e10]; exact R_5_9
  have G_0_15_10 : σ10.2.2.1 o 15 = some (o + 5) := by rw [e10]; exact g_prS
  clear K_0_9 K_1_9 K_2_9 K_3_9 K_4_9 K_5_9 G_0_2_9 G_0_3_9 G_0_13_9 G_0_14_9 R_0_9 R_1_9 R_2_9 R_3_9 R_4_9 R_5_9 N_9 T_9 O_9 X_9 e10 σ9
  show RC _ _ _ [some (.ref o), none, none, none] [] σ10 _
  refine c_aload rfl ?_
  refine c_int ?_
  refine c_newa (t := 0) (z := 192) (by decide) (by decide) (mOut_lt (ltL [o] rfl (List.forall_mem_cons.mpr ⟨by omega, (fun _ h => absurd h List.not_mem_nil)⟩)) (ltS [o] rfl (List.forall_mem_cons.mpr ⟨by omega, (fun _ h => absurd h List.not_mem_nil)⟩))) O_10 ?_
  rw [show ((192 : Int32)).toNatClampNeg = 192 by decide]
  obtain ⟨σ11, e11⟩ : ∃ x, x = mNew σ10 20 192 192 := ⟨_, rfl⟩
  rw [← e11, show σ10.2.1.length = o + 6 by omega]
  have N_11 : σ11.2.1.length = o + 7 := by rw [e11, len_new]; omega
  have T_11 : σ11.1 = σ.1 + 1236 := by rw [e11]; show σ10.1 + 192 = _; omega
  have O_11 : rOK σ11 := by rw [e11]; exact rOK_new O_10
  have X_11 : Ex σ σ11 o := by rw [e11]; exact X_10.new (by omega)
  have K_0_11 : σ11.2.1[o]? = some (10, 0) := by rw [e11]; exact k_new K_0_10
  have K_1_11 : σ11.2.1[o + 1]? = some (23, 43) := by rw [e11]; exact k_new K_1_10
  have K_2_11 : σ11.2.1[o + 2]? = some (20, 700) := by rw [e11]; exact k_new K_2_10
  have K_3_11 : σ11.2.1[o + 3]? = some (20, 100) := by rw [e11]; exact k_new K_3_10
  have K_4_11 : σ11.2.1[o + 4]? = some (20, 100) := by rw [e11]; exact k_new K_4_10
  have K_5_11 : σ11.2.1[o + 5]? = some (20, 101) := by rw [e11]; exact k_new K_5_10
  have G_0_2_11 : σ11.2.2.1 o 2 = some (o + 1) := by rw [e11]; exact g_new (by omega) G_0_2_10
  have G_0_3_11 : σ11.2.2.1 o 3 = some (o + 2) := by rw [e11]; exact g_new (by omega) G_0_3_10
  have G_0_13_11 : σ11.2.2.1 o 13 = some (o + 3) := by rw [e11]; exact g_new (by omega) G_0_13_10
  have G_0_14_11 : σ11.2.2.1 o 14 = some (o + 4) := by rw [e11]; exact g_new (by omega) G_0_14_10
  have G_0_15_11 : σ11.2.2.1 o 15 = some (o + 5) := by rw [e11]; exact g_new (by omega) G_0_15_10
  have R_0_11 : σ11.2.2.2.1 o = fun _ => 0 := by rw [e11]; exact (mup_ne (by omega)).trans R_0_10
  have R_1_11 : σ11.2.2.2.1 (o + 1) = fun _ => 0 := by rw [e11]; exact (mup_ne (by omega)).trans R_1_10
  have R_2_11 : σ11.2.2.2.1 (o + 2) = fun _ => 0 := by rw [e11]; exact (mup_ne (by omega)).trans R_2_10
  have R_3_11 : σ11.2.2.2.1 (o + 3) = fun _ => 0 := by rw [e11]; exact (mup_ne (by omega)).trans R_3_10
  have R_4_11 : σ11.2.2.2.1 (o + 4) = fun _ => 0 := by rw [e11]; exact (mup_ne (by omega)).trans R_4_10
  have R_5_11 : σ11.2.2.2.1 (o + 5) = fun _ => 0 := by rw [e11]; exact (mup_ne (by omega)).trans R_5_10
  have K_6_11 : σ11.2.1[o + 6]? = some (20, 192) := by rw [e11, ← show σ10.2.1.length = o + 6 by omega]; exact k_newS
  have R_6_11 : σ11.2.2.2.1 (o + 6) = fun _ => 0 := by rw [e11, ← show σ10.2.1.length = o + 6 by omega]; exact mup_eq
  clear K_0_10 K_1_10 K_2_10 K_3_10 K_4_10 K_5_10 G_0_2_10 G_0_3_10 G_0_13_10 G_0_14_10 G_0_15_10 R_0_10 R_1_10 R_2_10 R_3_10 R_4_10 R_5_10 N_10 T_10 O_10 X_10 e11 σ10
  show RC _ _ _ [some (.ref o), none, none, none] [.ref (o + 6), .ref o] σ11 _
  refine c_putr K_0_11 ?_
  obtain ⟨σ12, e12⟩ : ∃ x, x = mPr σ11 o 16 (some (o + 6)) := ⟨_, rfl⟩
  rw [← e12]
  have N_12 : σ12.2.1.length = o + 7 := by rw [e12]; exact N_11
  have T_12 : σ12.1 = σ.1 + 1236 := by rw [e12]; exact T_11
  have O_12 : rOK σ12 := by rw [e12]; exact rOK_pr O_11 (by omega)
  have X_12 : Ex σ σ12 o := by rw [e12]; exact X_11.pr (by omega)
  have K_0_12 : σ12.2.1[o]? = some (10, 0) := by rw [e12]; exact K_0_11
  have K_1_12 : σ12.2.1[o + 1]? = some (23, 43) := by rw [e12]; exact K_1_11
  have K_2_12 : σ12.2.1[o + 2]? = some (20, 700) := by rw [e12]; exact K_2_11
  have K_3_12 : σ12.2.1[o + 3]? = some (20, 100) := by rw [e12]; exact K_3_11
  have K_4_12 : σ12.2.1[o + 4]? = some (20, 100) := by rw [e12]; exact K_4_11
  have K_5_12 : σ12.2.1[o + 5]? = some (20, 101) := by rw [e12]; exact K_5_11
  have K_6_12 : σ12.2.1[o + 6]? = some (20, 192) := by rw [e12]; exact K_6_11
  have G_0_2_12 : σ12.2.2.1 o 2 = some (o + 1) := by rw [e12]; exact g_prK (by decide) G_0_2_11
  have G_0_3_12 : σ12.2.2.1 o 3 = some (o + 2) := by rw [e12]; exact g_prK (by decide) G_0_3_11
  have G_0_13_12 : σ12.2.2.1 o 13 = some (o + 3) := by rw [e12]; exact g_prK (by decide) G_0_13_11
  have G_0_14_12 : σ12.2.2.1 o 14 = some (o + 4) := by rw [e12]; exact g_prK (by decide) G_0_14_11
  have G_0_15_12 : σ12.2.2.1 o 15 = some (o + 5) := by rw [e12]; exact g_prK (by decide) G_0_15_11
  have R_0_12 : σ12.2.2.2.1 o = fun _ => 0 := by rw [e12]; exact R_0_11
  have R_1_12 : σ12.2.2.2.1 (o + 1) = fun _ => 0 := by rw [e12]; exact R_1_11
  have R_2_12 : σ12.2.2.2.1 (o + 2) = fun _ => 0 := by rw [e12]; exact R_2_11
  have R_3_12 : σ12.2.2.2.1 (o + 3) = fun _ => 0 := by rw [e12]; exact R_3_11
  have R_4_12 : σ12.2.2.2.1 (o + 4) = fun _ => 0 := by rw [e12]; exact R_4_11
  have R_5_12 : σ12.2.2.2.1 (o + 5) = fun _ => 0 := by rw [e12]; exact R_5_11
  have R_6_12 : σ12.2.2.2.1 (o + 6) = fun _ => 0 := by rw [e12]; exact R_6_11
  have G_0_16_12 : σ12.2.2.1 o 16 = some (o + 6) := by rw [e12]; exact g_prS
  clear K_0_11 K_1_11 K_2_11 K_3_11 K_4_11 K_5_11 K_6_11 G_0_2_11 G_0_3_11 G_0_13_11 G_0_14_11 G_0_15_11 R_0_11 R_1_11 R_2_11 R_3_11 R_4_11 R_5_11 R_6_11 N_11 T_11 O_11 X_11 e12 σ11
  show RC _ _ _ [some (.ref o), none, none, none] [] σ12 _
  refine c_aload rfl ?_
  refine c_int ?_
  refine c_newa (t := 0) (z := 48) (by decide) (by decide) (mOut_lt (ltL [o] rfl (List.forall_mem_cons.mpr ⟨by omega, (fun _ h => absurd h List.not_mem_nil)⟩)) (ltS [o] rfl (List.forall_mem_cons.mpr ⟨by omega, (fun _ h => absurd h List.not_mem_nil)⟩))) O_12 ?_
  rw [show ((48 : Int32)).toNatClampNeg = 48 by decide]
  obtain ⟨σ13, e13⟩ : ∃ x, x = mNew σ12 20 48 48 := ⟨_, rfl⟩
  rw [← e13, show σ12.2.1.length = o + 7 by omega]
  have N_13 : σ13.2.1.length = o + 8 := by rw [e13, len_new]; omega
  have T_13 : σ13.1 = σ.1 + 1284 := by rw [e13]; show σ12.1 + 48 = _; omega
  have O_13 : rOK σ13 := by rw [e13]; exact rOK_new O_12
  have X_13 : Ex σ σ13 o := by rw [e13]; exact X_12.new (by omega)
  have K_0_13 : σ13.2.1[o]? = some (10, 0) := by rw [e13]; exact k_new K_0_12
  have K_1_13 : σ13.2.1[o + 1]? = some (23, 43) := by rw [e13]; exact k_new K_1_12
  have K_2_13 : σ13.2.1[o + 2]? = some (20, 700) := by rw [e13]; exact k_new K_2_12
  have K_3_13 : σ13.2.1[o + 3]? = some (20, 100) := by rw [e13]; exact k_new K_3_12
  have K_4_13 : σ13.2.1[o + 4]? = some (20, 100) := by rw [e13]; exact k_new K_4_12
  have K_5_13 : σ13.2.1[o + 5]? = some (20, 101) := by rw [e13]; exact k_new K_5_12
  have K_6_13 : σ13.2.1[o + 6]? = some (20, 192) := by rw [e13]; exact k_new K_6_12
  have G_0_2_13 : σ13.2.2.1 o 2 = some (o + 1) := by rw [e13]; exact g_new (by omega) G_0_2_12
  have G_0_3_13 : σ13.2.2.1 o 3 = some (o + 2) := by rw [e13]; exact g_new (by omega) G_0_3_12
  have G_0_13_13 : σ13.2.2.1 o 13 = some (o + 3) := by rw [e13]; exact g_new (by omega) G_0_13_12
  have G_0_14_13 : σ13.2.2.1 o 14 = some (o + 4) := by rw [e13]; exact g_new (by omega) G_0_14_12
  have G_0_15_13 : σ13.2.2.1 o 15 = some (o + 5) := by rw [e13]; exact g_new (by omega) G_0_15_12
  have G_0_16_13 : σ13.2.2.1 o 16 = some (o + 6) := by rw [e13]; exact g_new (by omega) G_0_16_12
  have R_0_13 : σ13.2.2.2.1 o = fun _ => 0 := by rw [e13]; exact (mup_ne (by omega)).trans R_0_12
  have R_1_13 : σ13.2.2.2.1 (o + 1) = fun _ => 0 := by rw [e13]; exact (mup_ne (by omega)).trans R_1_12
  have R_2_13 : σ13.2.2.2.1 (o + 2) = fun _ => 0 := by rw [e13]; exact (mup_ne (by omega)).trans R_2_12
  have R_3_13 : σ13.2.2.2.1 (o + 3) = fun _ => 0 := by rw [e13]; exact (mup_ne (by omega)).trans R_3_12
  have R_4_13 : σ13.2.2.2.1 (o + 4) = fun _ => 0 := by rw [e13]; exact (mup_ne (by omega)).trans R_4_12
  have R_5_13 : σ13.2.2.2.1 (o + 5) = fun _ => 0 := by rw [e13]; exact (mup_ne (by omega)).trans R_5_12
  have R_6_13 : σ13.2.2.2.1 (o + 6) = fun _ => 0 := by rw [e13]; exact (mup_ne (by omega)).trans R_6_12
  have K_7_13 : σ13.2.1[o + 7]? = some (20, 48) := by rw [e13, ← show σ12.2.1.length = o + 7 by omega]; exact k_newS
  have R_7_13 : σ13.2.2.2.1 (o + 7) = fun _ => 0 := by rw [e13, ← show σ12.2.1.length = o + 7 by omega]; exact mup_eq
  clear K_0_12 K_1_12 K_2_12 K_3_12 K_4_12 K_5_12 K_6_12 G_0_2_12 G_0_3_12 G_0_13_12 G_0_14_12 G_0_15_12 G_0_16_12 R_0_12 R_1_12 R_2_12 R_3_12 R_4_12 R_5_12 R_6_12 N_12 T_12 O_12 X_12 e13 σ12
  show RC _ _ _ [some (.ref o), none, none, none] [.ref (o + 7), .ref o] σ13 _
  refine c_putr K_0_13 ?_
  obtain ⟨σ14, e14⟩ : ∃ x, x = mPr σ13 o 17 (some (o + 7)) := ⟨_, rfl⟩
  rw [← e14]
  have N_14 : σ14.2.1.length = o + 8 := by rw [e14]; exact N_13
  have T_14 : σ14.1 = σ.1 + 1284 := by rw [e14]; exact T_13
  have O_14 : rOK σ14 := by rw [e14]; exact rOK_pr O_13 (by omega)
  have X_14 : Ex σ σ14 o := by rw [e14]; exact X_13.pr (by omega)
  have K_0_14 : σ14.2.1[o]? = some (10, 0) := by rw [e14]; exact K_0_13
  have K_1_14 : σ14.2.1[o + 1]? = some (23, 43) := by rw [e14]; exact K_1_13
  have K_2_14 : σ14.2.1[o + 2]? = some (20, 700) := by rw [e14]; exact K_2_13
  have K_3_14 : σ14.2.1[o + 3]? = some (20, 100) := by rw [e14]; exact K_3_13
  have K_4_14 : σ14.2.1[o + 4]? = some (20, 100) := by rw [e14]; exact K_4_13
  have K_5_14 : σ14.2.1[o + 5]? = some (20, 101) := by rw [e14]; exact K_5_13
  have K_6_14 : σ14.2.1[o + 6]? = some (20, 192) := by rw [e14]; exact K_6_13
  have K_7_14 : σ14.2.1[o + 7]? = some (20, 48) := by rw [e14]; exact K_7_13
  have G_0_2_14 : σ14.2.2.1 o 2 = some (o + 1) := by rw [e14]; exact g_prK (by decide) G_0_2_13
  have G_0_3_14 : σ14.2.2.1 o 3 = some (o + 2) := by rw [e14]; exact g_prK (by decide) G_0_3_13
  have G_0_13_14 : σ14.2.2.1 o 13 = some (o + 3) := by rw [e14]; exact g_prK (by decide) G_0_13_13
  have G_0_14_14 : σ14.2.2.1 o 14 = some (o + 4) := by rw [e14]; exact g_prK (by decide) G_0_14_13
  have G_0_15_14 : σ14.2.2.1 o 15 = some (o + 5) := by rw [e14]; exact g_prK (by decide) G_0_15_13
  have G_0_16_14 : σ14.2.2.1 o 16 = some (o + 6) := by rw [e14]; exact g_prK (by decide) G_0_16_13
  have R_0_14 : σ14.2.2.2.1 o = fun _ => 0 := by rw [e14]; exact R_0_13
  have R_1_14 : σ14.2.2.2.1 (o + 1) = fun _ => 0 := by rw [e14]; exact R_1_13
  have R_2_14 : σ14.2.2.2.1 (o + 2) = fun _ => 0 := by rw [e14]; exact R_2_13
  have R_3_14 : σ14.2.2.2.1 (o + 3) = fun _ => 0 := by rw [e14]; exact R_3_13
  have R_4_14 : σ14.2.2.2.1 (o + 4) = fun _ => 0 := by rw [e14]; exact R_4_13
  have R_5_14 : σ14.2.2.2.1 (o + 5) = fun _ => 0 := by rw [e14]; exact R_5_13
  have R_6_14 : σ14.2.2.2.1 (o + 6) = fun _ => 0 := by rw [e14]; exact R_6_13
  have R_7_14 : σ14.2.2.2.1 (o + 7) = fun _ => 0 := by rw [e14]; exact R_7_13
  have G_0_17_14 : σ14.2.2.1 o 17 = some (o + 7) := by rw [e14]; exact g_prS
  clear K_0_13 K_1_13 K_2_13 K_3_13 K_4_13 K_5_13 K_6_13 K_7_13 G_0_2_13 G_0_3_13 G_0_13_13 G_0_14_13 G_0_15_13 G_0_16_13 R_0_13 R_1_13 R_2_13 R_3_13 R_4_13 R_5_13 R_6_13 R_7_13 N_13 T_13 O_13 X_13 e14 σ13
  show RC _ _ _ [some (.ref o), none, none, none] [] σ14 _
  refine c_aload rfl ?_
  refine c_int ?_
  refine c_newa (t := 0) (z := 8) (by decide) (by decide) (mOut_lt (ltL [o] rfl (List.forall_mem_cons.mpr ⟨by omega, (fun _ h => absurd h List.not_mem_nil)⟩)) (ltS [o] rfl (List.forall_mem_cons.mpr ⟨by omega, (fun _ h => absurd h List.not_mem_nil)⟩))) O_14 ?_
  rw [show ((8 : Int32)).toNatClampNeg = 8 by decide]
  obtain ⟨σ15, e15⟩ : ∃ x, x = mNew σ14 20 8 8 := ⟨_, rfl⟩
  rw [← e15, show σ14.2.1.length = o + 8 by omega]
  have N_15 : σ15.2.1.length = o + 9 := by rw [e15, len_new]; omega
  have T_15 : σ15.1 = σ.1 + 1292 := by rw [e15]; show σ14.1 + 8 = _; omega
  have O_15 : rOK σ15 := by rw [e15]; exact rOK_new O_14
  have X_15 : Ex σ σ15 o := by rw [e15]; exact X_14.new (by omega)
  have K_0_15 : σ15.2.1[o]? = some (10, 0) := by rw [e15]; exact k_new K_0_14
  have K_1_15 : σ15.2.1[o + 1]? = some (23, 43) := by rw [e15]; exact k_new K_1_14
  have K_2_15 : σ15.2.1[o + 2]? = some (20, 700) := by rw [e15]; exact k_new K_2_14
  have K_3_15 : σ15.2.1[o + 3]? = some (20, 100) := by rw [e15]; exact k_new K_3_14
  have K_4_15 : σ15.2.1[o + 4]? = some (20, 100) := by rw [e15]; exact k_new K_4_14
  have K_5_15 : σ15.2.1[o + 5]? = some (20, 101) := by rw [e15]; exact k_new K_5_14
  have K_6_15 : σ15.2.1[o + 6]? = some (20, 192) := by rw [e15]; exact k_new K_6_14
  have K_7_15 : σ15.2.1[o + 7]? = some (20, 48) := by rw [e15]; exact k_new K_7_14
  have G_0_2_15 : σ15.2.2.1 o 2 = some (o + 1) := by rw [e15]; exact g_new (by omega) G_0_2_14
  have G_0_3_15 : σ15.2.2.1 o 3 = some (o + 2) := by rw [e15]; exact g_new (by omega) G_0_3_14
  have G_0_13_15 : σ15.2.2.1 o 13 = some (o + 3) := by rw [e15]; exact g_new (by omega) G_0_13_14
  have G_0_14_15 : σ15.2.2.1 o 14 = some (o + 4) := by rw [e15]; exact g_new (by omega) G_0_14_14
  have G_0_15_15 : σ15.2.2.1 o 15 = some (o + 5) := by rw [e15]; exact g_new (by omega) G_0_15_14
  have G_0_16_15 : σ15.2.2.1 o 16 = some (o + 6) := by rw [e15]; exact g_new (by omega) G_0_16_14
  have G_0_17_15 : σ15.2.2.1 o 17 = some (o + 7) := by rw [e15]; exact g_new (by omega) G_0_17_14
  have R_0_15 : σ15.2.2.2.1 o = fun _ => 0 := by rw [e15]; exact (mup_ne (by omega)).trans R_0_14
  have R_1_15 : σ15.2.2.2.1 (o + 1) = fun _ => 0 := by rw [e15]; exact (mup_ne (by omega)).trans R_1_14
  have R_2_15 : σ15.2.2.2.1 (o + 2) = fun _ => 0 := by rw [e15]; exact (mup_ne (by omega)).trans R_2_14
  have R_3_15 : σ15.2.2.2.1 (o + 3) = fun _ => 0 := by rw [e15]; exact (mup_ne (by omega)).trans R_3_14
  have R_4_15 : σ15.2.2.2.1 (o + 4) = fun _ => 0 := by rw [e15]; exact (mup_ne (by omega)).trans R_4_14
  have R_5_15 : σ15.2.2.2.1 (o + 5) = fun _ => 0 := by rw [e15]; exact (mup_ne (by omega)).trans R_5_14
  have R_6_15 : σ15.2.2.2.1 (o + 6) = fun _ => 0 := by rw [e15]; exact (mup_ne (by omega)).trans R_6_14
  have R_7_15 : σ15.2.2.2.1 (o + 7) = fun _ => 0 := by rw [e15]; exact (mup_ne (by omega)).trans R_7_14
  have K_8_15 : σ15.2.1[o + 8]? = some (20, 8) := by rw [e15, ← show σ14.2.1.length = o + 8 by omega]; exact k_newS
  have R_8_15 : σ15.2.2.2.1 (o + 8) = fun _ => 0 := by rw [e15, ← show σ14.2.1.length = o + 8 by omega]; exact mup_eq
  clear K_0_14 K_1_14 K_2_14 K_3_14 K_4_14 K_5_14 K_6_14 K_7_14 G_0_2_14 G_0_3_14 G_0_13_14 G_0_14_14 G_0_15_14 G_0_16_14 G_0_17_14 R_0_14 R_1_14 R_2_14 R_3_14 R_4_14 R_5_14 R_6_14 R_7_14 N_14 T_14 O_14 X_14 e15 σ14
  show RC _ _ _ [some (.ref o), none, none, none] [.ref (o + 8), .ref o] σ15 _
  refine c_putr K_0_15 ?_
  obtain ⟨σ16, e16⟩ : ∃ x, x = mPr σ15 o 18 (some (o + 8)) := ⟨_, rfl⟩
  rw [← e16]
  have N_16 : σ16.2.1.length = o + 9 := by rw [e16]; exact N_15
  have T_16 : σ16.1 = σ.1 + 1292 := by rw [e16]; exact T_15
  have O_16 : rOK σ16 := by rw [e16]; exact rOK_pr O_15 (by omega)
  have X_16 : Ex σ σ16 o := by rw [e16]; exact X_15.pr (by omega)
  have K_0_16 : σ16.2.1[o]? = some (10, 0) := by rw [e16]; exact K_0_15
  have K_1_16 : σ16.2.1[o + 1]? = some (23, 43) := by rw [e16]; exact K_1_15
  have K_2_16 : σ16.2.1[o + 2]? = some (20, 700) := by rw [e16]; exact K_2_15
  have K_3_16 : σ16.2.1[o + 3]? = some (20, 100) := by rw [e16]; exact K_3_15
  have K_4_16 : σ16.2.1[o + 4]? = some (20, 100) := by rw [e16]; exact K_4_15
  have K_5_16 : σ16.2.1[o + 5]? = some (20, 101) := by rw [e16]; exact K_5_15
  have K_6_16 : σ16.2.1[o + 6]? = some (20, 192) := by rw [e16]; exact K_6_15
  have K_7_16 : σ16.2.1[o + 7]? = some (20, 48) := by rw [e16]; exact K_7_15
  have K_8_16 : σ16.2.1[o + 8]? = some (20, 8) := by rw [e16]; exact K_8_15
  have G_0_2_16 : σ16.2.2.1 o 2 = some (o + 1) := by rw [e16]; exact g_prK (by decide) G_0_2_15
  have G_0_3_16 : σ16.2.2.1 o 3 = some (o + 2) := by rw [e16]; exact g_prK (by decide) G_0_3_15
  have G_0_13_16 : σ16.2.2.1 o 13 = some (o + 3) := by rw [e16]; exact g_prK (by decide) G_0_13_15
  have G_0_14_16 : σ16.2.2.1 o 14 = some (o + 4) := by rw [e16]; exact g_prK (by decide) G_0_14_15
  have G_0_15_16 : σ16.2.2.1 o 15 = some (o + 5) := by rw [e16]; exact g_prK (by decide) G_0_15_15
  have G_0_16_16 : σ16.2.2.1 o 16 = some (o + 6) := by rw [e16]; exact g_prK (by decide) G_0_16_15
  have G_0_17_16 : σ16.2.2.1 o 17 = some (o + 7) := by rw [e16]; exact g_prK (by decide) G_0_17_15
  have R_0_16 : σ16.2.2.2.1 o = fun _ => 0 := by rw [e16]; exact R_0_15
  have R_1_16 : σ16.2.2.2.1 (o + 1) = fun _ => 0 := by rw [e16]; exact R_1_15
  have R_2_16 : σ16.2.2.2.1 (o + 2) = fun _ => 0 := by rw [e16]; exact R_2_15
  have R_3_16 : σ16.2.2.2.1 (o + 3) = fun _ => 0 := by rw [e16]; exact R_3_15
  have R_4_16 : σ16.2.2.2.1 (o + 4) = fun _ => 0 := by rw [e16]; exact R_4_15
  have R_5_16 : σ16.2.2.2.1 (o + 5) = fun _ => 0 := by rw [e16]; exact R_5_15
  have R_6_16 : σ16.2.2.2.1 (o + 6) = fun _ => 0 := by rw [e16]; exact R_6_15
  have R_7_16 : σ16.2.2.2.1 (o + 7) = fun _ => 0 := by rw [e16]; exact R_7_15
  have R_8_16 : σ16.2.2.2.1 (o + 8) = fun _ => 0 := by rw [e16]; exact R_8_15
  have G_0_18_16 : σ16.2.2.1 o 18 = some (o + 8) := by rw [e16]; exact g_prS
  clear K_0_15 K_1_15 K_2_15 K_3_15 K_4_15 K_5_15 K_6_15 K_7_15 K_8_15 G_0_2_15 G_0_3_15 G_0_13_15 G_0_14_15 G_0_15_15 G_0_16_15 G_0_17_15 R_0_15 R_1_15 R_2_15 R_3_15 R_4_15 R_5_15 R_6_15 R_7_15 R_8_15 N_15 T_15 O_15 X_15 e16 σ15
  show RC _ _ _ [some (.ref o), none, none, none] [] σ16 _
  refine c_aload rfl ?_
  refine c_int ?_
  refine c_newa (t := 0) (z := 100) (by decide) (by decide) (mOut_lt (ltL [o] rfl (List.forall_mem_cons.mpr ⟨by omega, (fun _ h => absurd h List.not_mem_nil)⟩)) (ltS [o] rfl (List.forall_mem_cons.mpr ⟨by omega, (fun _ h => absurd h List.not_mem_nil)⟩))) O_16 ?_
  rw [show ((100 : Int32)).toNatClampNeg = 100 by decide]
  obtain ⟨σ17, e17⟩ : ∃ x, x = mNew σ16 20 100 100 := ⟨_, rfl⟩
  rw [← e17, show σ16.2.1.length = o + 9 by omega]
  have N_17 : σ17.2.1.length = o + 10 := by rw [e17, len_new]; omega
  have T_17 : σ17.1 = σ.1 + 1392 := by rw [e17]; show σ16.1 + 100 = _; omega
  have O_17 : rOK σ17 := by rw [e17]; exact rOK_new O_16
  have X_17 : Ex σ σ17 o := by rw [e17]; exact X_16.new (by omega)
  have K_0_17 : σ17.2.1[o]? = some (10, 0) := by rw [e17]; exact k_new K_0_16
  have K_1_17 : σ17.2.1[o + 1]? = some (23, 43) := by rw [e17]; exact k_new K_1_16
  have K_2_17 : σ17.2.1[o + 2]? = some (20, 700) := by rw [e17]; exact k_new K_2_16
  have K_3_17 : σ17.2.1[o + 3]? = some (20, 100) := by rw [e17]; exact k_new K_3_16
  have K_4_17 : σ17.2.1[o + 4]? = some (20, 100) := by rw [e17]; exact k_new K_4_16
  have K_5_17 : σ17.2.1[o + 5]? = some (20, 101) := by rw [e17]; exact k_new K_5_16
  have K_6_17 : σ17.2.1[o + 6]? = some (20, 192) := by rw [e17]; exact k_new K_6_16
  have K_7_17 : σ17.2.1[o + 7]? = some (20, 48) := by rw [e17]; exact k_new K_7_16
  have K_8_17 : σ17.2.1[o + 8]? = some (20, 8) := by rw [e17]; exact k_new K_8_16
  have G_0_2_17 : σ17.2.2.1 o 2 = some (o + 1) := by rw [e17]; exact g_new (by omega) G_0_2_16
  have G_0_3_17 : σ17.2.2.1 o 3 = some (o + 2) := by rw [e17]; exact g_new (by omega) G_0_3_16
  have G_0_13_17 : σ17.2.2.1 o 13 = some (o + 3) := by rw [e17]; exact g_new (by omega) G_0_13_16
  have G_0_14_17 : σ17.2.2.1 o 14 = some (o + 4) := by rw [e17]; exact g_new (by omega) G_0_14_16
  have G_0_15_17 : σ17.2.2.1 o 15 = some (o + 5) := by rw [e17]; exact g_new (by omega) G_0_15_16
  have G_0_16_17 : σ17.2.2.1 o 16 = some (o + 6) := by rw [e17]; exact g_new (by omega) G_0_16_16
  have G_0_17_17 : σ17.2.2.1 o 17 = some (o + 7) := by rw [e17]; exact g_new (by omega) G_0_17_16
  have G_0_18_17 : σ17.2.2.1 o 18 = some (o + 8) := by rw [e17]; exact g_new (by omega) G_0_18_16
  have R_0_17 : σ17.2.2.2.1 o = fun _ => 0 := by rw [e17]; exact (mup_ne (by omega)).trans R_0_16
  have R_1_17 : σ17.2.2.2.1 (o + 1) = fun _ => 0 := by rw [e17]; exact (mup_ne (by omega)).trans R_1_16
  have R_2_17 : σ17.2.2.2.1 (o + 2) = fun _ => 0 := by rw [e17]; exact (mup_ne (by omega)).trans R_2_16
  have R_3_17 : σ17.2.2.2.1 (o + 3) = fun _ => 0 := by rw [e17]; exact (mup_ne (by omega)).trans R_3_16
  have R_4_17 : σ17.2.2.2.1 (o + 4) = fun _ => 0 := by rw [e17]; exact (mup_ne (by omega)).trans R_4_16
  have R_5_17 : σ17.2.2.2.1 (o + 5) = fun _ => 0 := by rw [e17]; exact (mup_ne (by omega)).trans R_5_16
  have R_6_17 : σ17.2.2.2.1 (o + 6) = fun _ => 0 := by rw [e17]; exact (mup_ne (by omega)).trans R_6_16
  have R_7_17 : σ17.2.2.2.1 (o + 7) = fun _ => 0 := by rw [e17]; exact (mup_ne (by omega)).trans R_7_16
  have R_8_17 : σ17.2.2.2.1 (o + 8) = fun _ => 0 := by rw [e17]; exact (mup_ne (by omega)).trans R_8_16
  have K_9_17 : σ17.2.1[o + 9]? = some (20, 100) := by rw [e17, ← show σ16.2.1.length = o + 9 by omega]; exact k_newS
  have R_9_17 : σ17.2.2.2.1 (o + 9) = fun _ => 0 := by rw [e17, ← show σ16.2.1.length = o + 9 by omega]; exact mup_eq
  clear K_0_16 K_1_16 K_2_16 K_3_16 K_4_16 K_5_16 K_6_16 K_7_16 K_8_16 G_0_2_16 G_0_3_16 G_0_13_16 G_0_14_16 G_0_15_16 G_0_16_16 G_0_17_16 G_0_18_16 R_0_16 R_1_16 R_2_16 R_3_16 R_4_16 R_5_16 R_6_16 R_7_16 R_8_16 N_16 T_16 O_16 X_16 e17 σ16
  show RC _ _ _ [some (.ref o), none, none, none] [.ref (o + 9), .ref o] σ17 _
  refine c_putr K_0_17 ?_
  obtain ⟨σ18, e18⟩ : ∃ x, x = mPr σ17 o 19 (some (o + 9)) := ⟨_, rfl⟩
  rw [← e18]
  have N_18 : σ18.2.1.length = o + 10 := by rw [e18]; exact N_17
  have T_18 : σ18.1 = σ.1 + 1392 := by rw [e18]; exact T_17
  have O_18 : rOK σ18 := by rw [e18]; exact rOK_pr O_17 (by omega)
  have X_18 : Ex σ σ18 o := by rw [e18]; exact X_17.pr (by omega)
  have K_0_18 : σ18.2.1[o]? = some (10, 0) := by rw [e18]; exact K_0_17
  have K_1_18 : σ18.2.1[o + 1]? = some (23, 43) := by rw [e18]; exact K_1_17
  have K_2_18 : σ18.2.1[o + 2]? = some (20, 700) := by rw [e18]; exact K_2_17
  have K_3_18 : σ18.2.1[o + 3]? = some (20, 100) := by rw [e18]; exact K_3_17
  have K_4_18 : σ18.2.1[o + 4]? = some (20, 100) := by rw [e18]; exact K_4_17
  have K_5_18 : σ18.2.1[o + 5]? = some (20, 101) := by rw [e18]; exact K_5_17
  have K_6_18 : σ18.2.1[o + 6]? = some (20, 192) := by rw [e18]; exact K_6_17
  have K_7_18 : σ18.2.1[o + 7]? = some (20, 48) := by rw [e18]; exact K_7_17
  have K_8_18 : σ18.2.1[o + 8]? = some (20, 8) := by rw [e18]; exact K_8_17
  have K_9_18 : σ18.2.1[o + 9]? = some (20, 100) := by rw [e18]; exact K_9_17
  have G_0_2_18 : σ18.2.2.1 o 2 = some (o + 1) := by rw [e18]; exact g_prK (by decide) G_0_2_17
  have G_0_3_18 : σ18.2.2.1 o 3 = some (o + 2) := by rw [e18]; exact g_prK (by decide) G_0_3_17
  have G_0_13_18 : σ18.2.2.1 o 13 = some (o + 3) := by rw [e18]; exact g_prK (by decide) G_0_13_17
  have G_0_14_18 : σ18.2.2.1 o 14 = some (o + 4) := by rw [e18]; exact g_prK (by decide) G_0_14_17
  have G_0_15_18 : σ18.2.2.1 o 15 = some (o + 5) := by rw [e18]; exact g_prK (by decide) G_0_15_17
  have G_0_16_18 : σ18.2.2.1 o 16 = some (o + 6) := by rw [e18]; exact g_prK (by decide) G_0_16_17
  have G_0_17_18 : σ18.2.2.1 o 17 = some (o + 7) := by rw [e18]; exact g_prK (by decide) G_0_17_17
  have G_0_18_18 : σ18.2.2.1 o 18 = some (o + 8) := by rw [e18]; exact g_prK (by decide) G_0_18_17
  have R_0_18 : σ18.2.2.2.1 o = fun _ => 0 := by rw [e18]; exact R_0_17
  have R_1_18 : σ18.2.2.2.1 (o + 1) = fun _ => 0 := by rw [e18]; exact R_1_17
  have R_2_18 : σ18.2.2.2.1 (o + 2) = fun _ => 0 := by rw [e18]; exact R_2_17
  have R_3_18 : σ18.2.2.2.1 (o + 3) = fun _ => 0 := by rw [e18]; exact R_3_17
  have R_4_18 : σ18.2.2.2.1 (o + 4) = fun _ => 0 := by rw [e18]; exact R_4_17
  have R_5_18 : σ18.2.2.2.1 (o + 5) = fun _ => 0 := by rw [e18]; exact R_5_17
  have R_6_18 : σ18.2.2.2.1 (o + 6) = fun _ => 0 := by rw [e18]; exact R_6_17
  have R_7_18 : σ18.2.2.2.1 (o + 7) = fun _ => 0 := by rw [e18]; exact R_7_17
  have R_8_18 : σ18.2.2.2.1 (o + 8) = fun _ => 0 := by rw [e18]; exact R_8_17
  have R_9_18 : σ18.2.2.2.1 (o + 9) = fun _ => 0 := by rw [e18]; exact R_9_17
  have G_0_19_18 : σ18.2.2.1 o 19 = some (o + 9) := by rw [e18]; exact g_prS
  clear K_0_17 K_1_17 K_2_17 K_3_17 K_4_17 K_5_17 K_6_17 K_7_17 K_8_17 K_9_17 G_0_2_17 G_0_3_17 G_0_13_17 G_0_14_17 G_0_15_17 G_0_16_17 G_0_17_17 G_0_18_17 R_0_17 R_1_17 R_2_17 R_3_17 R_4_17 R_5_17 R_6_17 R_7_17 R_8_17 R_9_17 N_17 T_17 O_17 X_17 e18 σ17
  show RC _ _ _ [some (.ref o), none, none, none] [] σ18 _
  refine c_aload rfl ?_
  refine c_int ?_
  refine c_newa (t := 0) (z := 100) (by decide) (by decide) (mOut_lt (ltL [o] rfl (List.forall_mem_cons.mpr ⟨by omega, (fun _ h => absurd h List.not_mem_nil)⟩)) (ltS [o] rfl (List.forall_mem_cons.mpr ⟨by omega, (fun _ h => absurd h List.not_mem_nil)⟩))) O_18 ?_
  rw [show ((100 : Int32)).toNatClampNeg = 100 by decide]
  obtain ⟨σ19, e19⟩ : ∃ x, x = mNew σ18 20 100 100 := ⟨_, rfl⟩
  rw [← e19, show σ18.2.1.length = o + 10 by omega]
  have N_19 : σ19.2.1.length = o + 11 := by rw [e19, len_new]; omega
  have T_19 : σ19.1 = σ.1 + 1492 := by rw [e19]; show σ18.1 + 100 = _; omega
  have O_19 : rOK σ19 := by rw [e19]; exact rOK_new O_18
  have X_19 : Ex σ σ19 o := by rw [e19]; exact X_18.new (by omega)
  have K_0_19 : σ19.2.1[o]? = some (10, 0) := by rw [e19]; exact k_new K_0_18
  have K_1_19 : σ19.2.1[o + 1]? = some (23, 43) := by rw [e19]; exact k_new K_1_18
  have K_2_19 : σ19.2.1[o + 2]? = some (20, 700) := by rw [e19]; exact k_new K_2_18
  have K_3_19 : σ19.2.1[o + 3]? = some (20, 100) := by rw [e19]; exact k_new K_3_18
  have K_4_19 : σ19.2.1[o + 4]? = some (20, 100) := by rw [e19]; exact k_new K_4_18
  have K_5_19 : σ19.2.1[o + 5]? = some (20, 101) := by rw [e19]; exact k_new K_5_18
  have K_6_19 : σ19.2.1[o + 6]? = some (20, 192) := by rw [e19]; exact k_new K_6_18
  have K_7_19 : σ19.2.1[o + 7]? = some (20, 48) := by rw [e19]; exact k_new K_7_18
  have K_8_19 : σ19.2.1[o + 8]? = some (20, 8) := by rw [e19]; exact k_new K_8_18
  have K_9_19 : σ19.2.1[o + 9]? = some (20, 100) := by rw [e19]; exact k_new K_9_18
  have G_0_2_19 : σ19.2.2.1 o 2 = some (o + 1) := by rw [e19]; exact g_new (by omega) G_0_2_18
  have G_0_3_19 : σ19.2.2.1 o 3 = some (o + 2) := by rw [e19]; exact g_new (by omega) G_0_3_18
  have G_0_13_19 : σ19.2.2.1 o 13 = some (o + 3) := by rw [e19]; exact g_new (by omega) G_0_13_18
  have G_0_14_19 : σ19.2.2.1 o 14 = some (o + 4) := by rw [e19]; exact g_new (by omega) G_0_14_18
  have G_0_15_19 : σ19.2.2.1 o 15 = some (o + 5) := by rw [e19]; exact g_new (by omega) G_0_15_18
  have G_0_16_19 : σ19.2.2.1 o 16 = some (o + 6) := by rw [e19]; exact g_new (by omega) G_0_16_18
  have G_0_17_19 : σ19.2.2.1 o 17 = some (o + 7) := by rw [e19]; exact g_new (by omega) G_0_17_18
  have G_0_18_19 : σ19.2.2.1 o 18 = some (o + 8) := by rw [e19]; exact g_new (by omega) G_0_18_18
  have G_0_19_19 : σ19.2.2.1 o 19 = some (o + 9) := by rw [e19]; exact g_new (by omega) G_0_19_18
  have R_0_19 : σ19.2.2.2.1 o = fun _ => 0 := by rw [e19]; exact (mup_ne (by omega)).trans R_0_18
  have R_1_19 : σ19.2.2.2.1 (o + 1) = fun _ => 0 := by rw [e19]; exact (mup_ne (by omega)).trans R_1_18
  have R_2_19 : σ19.2.2.2.1 (o + 2) = fun _ => 0 := by rw [e19]; exact (mup_ne (by omega)).trans R_2_18
  have R_3_19 : σ19.2.2.2.1 (o + 3) = fun _ => 0 := by rw [e19]; exact (mup_ne (by omega)).trans R_3_18
  have R_4_19 : σ19.2.2.2.1 (o + 4) = fun _ => 0 := by rw [e19]; exact (mup_ne (by omega)).trans R_4_18
  have R_5_19 : σ19.2.2.2.1 (o + 5) = fun _ => 0 := by rw [e19]; exact (mup_ne (by omega)).trans R_5_18
  have R_6_19 : σ19.2.2.2.1 (o + 6) = fun _ => 0 := by rw [e19]; exact (mup_ne (by omega)).trans R_6_18
  have R_7_19 : σ19.2.2.2.1 (o + 7) = fun _ => 0 := by rw [e19]; exact (mup_ne (by omega)).trans R_7_18
  have R_8_19 : σ19.2.2.2.1 (o + 8) = fun _ => 0 := by rw [e19]; exact (mup_ne (by omega)).trans R_8_18
  have R_9_19 : σ19.2.2.2.1 (o + 9) = fun _ => 0 := by rw [e19]; exact (mup_ne (by omega)).trans R_9_18
  have K_10_19 : σ19.2.1[o + 10]? = some (20, 100) := by rw [e19, ← show σ18.2.1.length = o + 10 by omega]; exact k_newS
  have R_10_19 : σ19.2.2.2.1 (o + 10) = fun _ => 0 := by rw [e19, ← show σ18.2.1.length = o + 10 by omega]; exact mup_eq
  clear K_0_18 K_1_18 K_2_18 K_3_18 K_4_18 K_5_18 K_6_18 K_7_18 K_8_18 K_9_18 G_0_2_18 G_0_3_18 G_0_13_18 G_0_14_18 G_0_15_18 G_0_16_18 G_0_17_18 G_0_18_18 G_0_19_18 R_0_18 R_1_18 R_2_18 R_3_18 R_4_18 R_5_18 R_6_18 R_7_18 R_8_18 R_9_18 N_18 T_18 O_18 X_18 e19 σ18
  show RC _ _ _ [some (.ref o), none, none, none] [.ref (o + 10), .ref o] σ19 _
  refine c_putr K_0_19 ?_
  obtain ⟨σ20, e20⟩ : ∃ x, x = mPr σ19 o 20 (some (o + 10)) := ⟨_, rfl⟩
  rw [← e20]
  have N_20 : σ20.2.1.length = o + 11 := by rw [e20]; exact N_19
  have T_20 : σ20.1 = σ.1 + 1492 := by rw [e20]; exact T_19
  have O_20 : rOK σ20 := by rw [e20]; exact rOK_pr O_19 (by omega)
  have X_20 : Ex σ σ20 o := by rw [e20]; exact X_19.pr (by omega)
  have K_0_20 : σ20.2.1[o]? = some (10, 0) := by rw [e20]; exact K_0_19
  have K_1_20 : σ20.2.1[o + 1]? = some (23, 43) := by rw [e20]; exact K_1_19
  have K_2_20 : σ20.2.1[o + 2]? = some (20, 700) := by rw [e20]; exact K_2_19
  have K_3_20 : σ20.2.1[o + 3]? = some (20, 100) := by rw [e20]; exact K_3_19
  have K_4_20 : σ20.2.1[o + 4]? = some (20, 100) := by rw [e20]; exact K_4_19
  have K_5_20 : σ20.2.1[o + 5]? = some (20, 101) := by rw [e20]; exact K_5_19
  have K_6_20 : σ20.2.1[o + 6]? = some (20, 192) := by rw [e20]; exact K_6_19
  have K_7_20 : σ20.2.1[o + 7]? = some (20, 48) := by rw [e20]; exact K_7_19
  have K_8_20 : σ20.2.1[o + 8]? = some (20, 8) := by rw [e20]; exact K_8_19
  have K_9_20 : σ20.2.1[o + 9]? = some (20, 100) := by rw [e20]; exact K_9_19
  have K_10_20 : σ20.2.1[o + 10]? = some (20, 100) := by rw [e20]; exact K_10_19
  have G_0_2_20 : σ20.2.2.1 o 2 = some (o + 1) := by rw [e20]; exact g_prK (by decide) G_0_2_19
  have G_0_3_20 : σ20.2.2.1 o 3 = some (o + 2) := by rw [e20]; exact g_prK (by decide) G_0_3_19
  have G_0_13_20 : σ20.2.2.1 o 13 = some (o + 3) := by rw [e20]; exact g_prK (by decide) G_0_13_19
  have G_0_14_20 : σ20.2.2.1 o 14 = some (o + 4) := by rw [e20]; exact g_prK (by decide) G_0_14_19
  have G_0_15_20 : σ20.2.2.1 o 15 = some (o + 5) := by rw [e20]; exact g_prK (by decide) G_0_15_19
  have G_0_16_20 : σ20.2.2.1 o 16 = some (o + 6) := by rw [e20]; exact g_prK (by decide) G_0_16_19
  have G_0_17_20 : σ20.2.2.1 o 17 = some (o + 7) := by rw [e20]; exact g_prK (by decide) G_0_17_19
  have G_0_18_20 : σ20.2.2.1 o 18 = some (o + 8) := by rw [e20]; exact g_prK (by decide) G_0_18_19
  have G_0_19_20 : σ20.2.2.1 o 19 = some (o + 9) := by rw [e20]; exact g_prK (by decide) G_0_19_19
  have R_0_20 : σ20.2.2.2.1 o = fun _ => 0 := by rw [e20]; exact R_0_19
  have R_1_20 : σ20.2.2.2.1 (o + 1) = fun _ => 0 := by rw [e20]; exact R_1_19
  have R_2_20 : σ20.2.2.2.1 (o + 2) = fun _ => 0 := by rw [e20]; exact R_2_19
  have R_3_20 : σ20.2.2.2.1 (o + 3) = fun _ => 0 := by rw [e20]; exact R_3_19
  have R_4_20 : σ20.2.2.2.1 (o + 4) = fun _ => 0 := by rw [e20]; exact R_4_19
  have R_5_20 : σ20.2.2.2.1 (o + 5) = fun _ => 0 := by rw [e20]; exact R_5_19
  have R_6_20 : σ20.2.2.2.1 (o + 6) = fun _ => 0 := by rw [e20]; exact R_6_19
  have R_7_20 : σ20.2.2.2.1 (o + 7) = fun _ => 0 := by rw [e20]; exact R_7_19
  have R_8_20 : σ20.2.2.2.1 (o + 8) = fun _ => 0 := by rw [e20]; exact R_8_19
  have R_9_20 : σ20.2.2.2.1 (o + 9) = fun _ => 0 := by rw [e20]; exact R_9_19
  have R_10_20 : σ20.2.2.2.1 (o + 10) = fun _ => 0 := by rw [e20]; exact R_10_19
  have G_0_20_20 : σ20.2.2.1 o 20 = some (o + 10) := by rw [e20]; exact g_prS
  clear K_0_19 K_1_19 K_2_19 K_3_19 K_4_19 K_5_19 K_6_19 K_7_19 K_8_19 K_9_19 K_10_19 G_0_2_19 G_0_3_19 G_0_13_19 G_0_14_19 G_0_15_19 G_0_16_19 G_0_17_19 G_0_18_19 G_0_19_19 R_0_19 R_1_19 R_2_19 R_3_19 R_4_19 R_5_19 R_6_19 R_7_19 R_8_19 R_9_19 R_10_19 N_19 T_19 O_19 X_19 e20 σ19
  show RC _ _ _ [some (.ref o), none, none, none] [] σ20 _
  refine c_aload rfl ?_
  refine c_int ?_
  refine c_newa (t := 0) (z := 101) (by decide) (by decide) (mOut_lt (ltL [o] rfl (List.forall_mem_cons.mpr ⟨by omega, (fun _ h => absurd h List.not_mem_nil)⟩)) (ltS [o] rfl (List.forall_mem_cons.mpr ⟨by omega, (fun _ h => absurd h List.not_mem_nil)⟩))) O_20 ?_
  rw [show ((101 : Int32)).toNatClampNeg = 101 by decide]
  obtain ⟨σ21, e21⟩ : ∃ x, x = mNew σ20 20 101 101 := ⟨_, rfl⟩
  rw [← e21, show σ20.2.1.length = o + 11 by omega]
  have N_21 : σ21.2.1.length = o + 12 := by rw [e21, len_new]; omega
  have T_21 : σ21.1 = σ.1 + 1593 := by rw [e21]; show σ20.1 + 101 = _; omega
  have O_21 : rOK σ21 := by rw [e21]; exact rOK_new O_20
  have X_21 : Ex σ σ21 o := by rw [e21]; exact X_20.new (by omega)
  have K_0_21 : σ21.2.1[o]? = some (10, 0) := by rw [e21]; exact k_new K_0_20
  have K_1_21 : σ21.2.1[o + 1]? = some (23, 43) := by rw [e21]; exact k_new K_1_20
  have K_2_21 : σ21.2.1[o + 2]? = some (20, 700) := by rw [e21]; exact k_new K_2_20
  have K_3_21 : σ21.2.1[o + 3]? = some (20, 100) := by rw [e21]; exact k_new K_3_20
  have K_4_21 : σ21.2.1[o + 4]? = some (20, 100) := by rw [e21]; exact k_new K_4_20
  have K_5_21 : σ21.2.1[o + 5]? = some (20, 101) := by rw [e21]; exact k_new K_5_20
  have K_6_21 : σ21.2.1[o + 6]? = some (20, 192) := by rw [e21]; exact k_new K_6_20
  have K_7_21 : σ21.2.1[o + 7]? = some (20, 48) := by rw [e21]; exact k_new K_7_20
  have K_8_21 : σ21.2.1[o + 8]? = some (20, 8) := by rw [e21]; exact k_new K_8_20
  have K_9_21 : σ21.2.1[o + 9]? = some (20, 100) := by rw [e21]; exact k_new K_9_20
  have K_10_21 : σ21.2.1[o + 10]? = some (20, 100) := by rw [e21]; exact k_new K_10_20
  have G_0_2_21 : σ21.2.2.1 o 2 = some (o + 1) := by rw [e21]; exact g_new (by omega) G_0_2_20
  have G_0_3_21 : σ21.2.2.1 o 3 = some (o + 2) := by rw [e21]; exact g_new (by omega) G_0_3_20
  have G_0_13_21 : σ21.2.2.1 o 13 = some (o + 3) := by rw [e21]; exact g_new (by omega) G_0_13_20
  have G_0_14_21 : σ21.2.2.1 o 14 = some (o + 4) := by rw [e21]; exact g_new (by omega) G_0_14_20
  have G_0_15_21 : σ21.2.2.1 o 15 = some (o + 5) := by rw [e21]; exact g_new (by omega) G_0_15_20
  have G_0_16_21 : σ21.2.2.1 o 16 = some (o + 6) := by rw [e21]; exact g_new (by omega) G_0_16_20
  have G_0_17_21 : σ21.2.2.1 o 17 = some (o + 7) := by rw [e21]; exact g_new (by omega) G_0_17_20
  have G_0_18_21 : σ21.2.2.1 o 18 = some (o + 8) := by rw [e21]; exact g_new (by omega) G_0_18_20
  have G_0_19_21 : σ21.2.2.1 o 19 = some (o + 9) := by rw [e21]; exact g_new (by omega) G_0_19_20
  have G_0_20_21 : σ21.2.2.1 o 20 = some (o + 10) := by rw [e21]; exact g_new (by omega) G_0_20_20
  have R_0_21 : σ21.2.2.2.1 o = fun _ => 0 := by rw [e21]; exact (mup_ne (by omega)).trans R_0_20
  have R_1_21 : σ21.2.2.2.1 (o + 1) = fun _ => 0 := by rw [e21]; exact (mup_ne (by omega)).trans R_1_20
  have R_2_21 : σ21.2.2.2.1 (o + 2) = fun _ => 0 := by rw [e21]; exact (mup_ne (by omega)).trans R_2_20
  have R_3_21 : σ21.2.2.2.1 (o + 3) = fun _ => 0 := by rw [e21]; exact (mup_ne (by omega)).trans R_3_20
  have R_4_21 : σ21.2.2.2.1 (o + 4) = fun _ => 0 := by rw [e21]; exact (mup_ne (by omega)).trans R_4_20
  have R_5_21 : σ21.2.2.2.1 (o + 5) = fun _ => 0 := by rw [e21]; exact (mup_ne (by omega)).trans R_5_20
  have R_6_21 : σ21.2.2.2.1 (o + 6) = fun _ => 0 := by rw [e21]; exact (mup_ne (by omega)).trans R_6_20
  have R_7_21 : σ21.2.2.2.1 (o + 7) = fun _ => 0 := by rw [e21]; exact (mup_ne (by omega)).trans R_7_20
  have R_8_21 : σ21.2.2.2.1 (o + 8) = fun _ => 0 := by rw [e21]; exact (mup_ne (by omega)).trans R_8_20
  have R_9_21 : σ21.2.2.2.1 (o + 9) = fun _ => 0 := by rw [e21]; exact (mup_ne (by omega)).trans R_9_20
  have R_10_21 : σ21.2.2.2.1 (o + 10) = fun _ => 0 := by rw [e21]; exact (mup_ne (by omega)).trans R_10_20
  have K_11_21 : σ21.2.1[o + 11]? = some (20, 101) := by rw [e21, ← show σ20.2.1.length = o + 11 by omega]; exact k_newS
  have R_11_21 : σ21.2.2.2.1 (o + 11) = fun _ => 0 := by rw [e21, ← show σ20.2.1.length = o + 11 by omega]; exact mup_eq
  clear K_0_20 K_1_20 K_2_20 K_3_20 K_4_20 K_5_20 K_6_20 K_7_20 K_8_20 K_9_20 K_10_20 G_0_2_20 G_0_3_20 G_0_13_20 G_0_14_20 G_0_15_20 G_0_16_20 G_0_17_20 G_0_18_20 G_0_19_20 G_0_20_20 R_0_20 R_1_20 R_2_20 R_3_20 R_4_20 R_5_20 R_6_20 R_7_20 R_8_20 R_9_20 R_10_20 N_20 T_20 O_20 X_20 e21 σ20
  show RC _ _ _ [some (.ref o), none, none, none] [.ref (o + 11), .ref o] σ21 _
  refine c_putr K_0_21 ?_
  obtain ⟨σ22, e22⟩ : ∃ x, x = mPr σ21 o 21 (some (o + 11)) := ⟨_, rfl⟩
  rw [← e22]
  have N_22 : σ22.2.1.length = o + 12 := by rw [e22]; exact N_21
  have T_22 : σ22.1 = σ.1 + 1593 := by rw [e22]; exact T_21
  have O_22 : rOK σ22 := by rw [e22]; exact rOK_pr O_21 (by omega)
  have X_22 : Ex σ σ22 o := by rw [e22]; exact X_21.pr (by omega)
  have K_0_22 : σ22.2.1[o]? = some (10, 0) := by rw [e22]; exact K_0_21
  have K_1_22 : σ22.2.1[o + 1]? = some (23, 43) := by rw [e22]; exact K_1_21
  have K_2_22 : σ22.2.1[o + 2]? = some (20, 700) := by rw [e22]; exact K_2_21
  have K_3_22 : σ22.2.1[o + 3]? = some (20, 100) := by rw [e22]; exact K_3_21
  have K_4_22 : σ22.2.1[o + 4]? = some (20, 100) := by rw [e22]; exact K_4_21
  have K_5_22 : σ22.2.1[o + 5]? = some (20, 101) := by rw [e22]; exact K_5_21
  have K_6_22 : σ22.2.1[o + 6]? = some (20, 192) := by rw [e22]; exact K_6_21
  have K_7_22 : σ22.2.1[o + 7]? = some (20, 48) := by rw [e22]; exact K_7_21
  have K_8_22 : σ22.2.1[o + 8]? = some (20, 8) := by rw [e22]; exact K_8_21
  have K_9_22 : σ22.2.1[o + 9]? = some (20, 100) := by rw [e22]; exact K_9_21
  have K_10_22 : σ22.2.1[o + 10]? = some (20, 100) := by rw [e22]; exact K_10_21
  have K_11_22 : σ22.2.1[o + 11]? = some (20, 101) := by rw [e22]; exact K_11_21
  have G_0_2_22 : σ22.2.2.1 o 2 = some (o + 1) := by rw [e22]; exact g_prK (by decide) G_0_2_21
  have G_0_3_22 : σ22.2.2.1 o 3 = some (o + 2) := by rw [e22]; exact g_prK (by decide) G_0_3_21
  have G_0_13_22 : σ22.2.2.1 o 13 = some (o + 3) := by rw [e22]; exact g_prK (by decide) G_0_13_21
  have G_0_14_22 : σ22.2.2.1 o 14 = some (o + 4) := by rw [e22]; exact g_prK (by decide) G_0_14_21
  have G_0_15_22 : σ22.2.2.1 o 15 = some (o + 5) := by rw [e22]; exact g_prK (by decide) G_0_15_21
  have G_0_16_22 : σ22.2.2.1 o 16 = some (o + 6) := by rw [e22]; exact g_prK (by decide) G_0_16_21
  have G_0_17_22 : σ22.2.2.1 o 17 = some (o + 7) := by rw [e22]; exact g_prK (by decide) G_0_17_21
  have G_0_18_22 : σ22.2.2.1 o 18 = some (o + 8) := by rw [e22]; exact g_prK (by decide) G_0_18_21
  have G_0_19_22 : σ22.2.2.1 o 19 = some (o + 9) := by rw [e22]; exact g_prK (by decide) G_0_19_21
  have G_0_20_22 : σ22.2.2.1 o 20 = some (o + 10) := by rw [e22]; exact g_prK (by decide) G_0_20_21
  have R_0_22 : σ22.2.2.2.1 o = fun _ => 0 := by rw [e22]; exact R_0_21
  have R_1_22 : σ22.2.2.2.1 (o + 1) = fun _ => 0 := by rw [e22]; exact R_1_21
  have R_2_22 : σ22.2.2.2.1 (o + 2) = fun _ => 0 := by rw [e22]; exact R_2_21
  have R_3_22 : σ22.2.2.2.1 (o + 3) = fun _ => 0 := by rw [e22]; exact R_3_21
  have R_4_22 : σ22.2.2.2.1 (o + 4) = fun _ => 0 := by rw [e22]; exact R_4_21
  have R_5_22 : σ22.2.2.2.1 (o + 5) = fun _ => 0 := by rw [e22]; exact R_5_21
  have R_6_22 : σ22.2.2.2.1 (o + 6) = fun _ => 0 := by rw [e22]; exact R_6_21
  have R_7_22 : σ22.2.2.2.1 (o + 7) = fun _ => 0 := by rw [e22]; exact R_7_21
  have R_8_22 : σ22.2.2.2.1 (o + 8) = fun _ => 0 := by rw [e22]; exact R_8_21
  have R_9_22 : σ22.2.2.2.1 (o + 9) = fun _ => 0 := by rw [e22]; exact R_9_21
  have R_10_22 : σ22.2.2.2.1 (o + 10) = fun _ => 0 := by rw [e22]; exact R_10_21
  have R_11_22 : σ22.2.2.2.1 (o + 11) = fun _ => 0 := by rw [e22]; exact R_11_21
  have G_0_21_22 : σ22.2.2.1 o 21 = some (o + 11) := by rw [e22]; exact g_prS
  clear K_0_21 K_1_21 K_2_21 K_3_21 K_4_21 K_5_21 K_6_21 K_7_21 K_8_21 K_9_21 K_10_21 K_11_21 G_0_2_21 G_0_3_21 G_0_13_21 G_0_14_21 G_0_15_21 G_0_16_21 G_0_17_21 G_0_18_21 G_0_19_21 G_0_20_21 R_0_21 R_1_21 R_2_21 R_3_21 R_4_21 R_5_21 R_6_21 R_7_21 R_8_21 R_9_21 R_10_21 R_11_21 N_21 T_21 O_21 X_21 e22 σ21
  show RC _ _ _ [some (.ref o), none, none, none] [] σ22 _
  refine c_aload rfl ?_
  refine c_int ?_
  refine c_newa (t := 0) (z := 8) (by decide) (by decide) (mOut_lt (ltL [o] rfl (List.forall_mem_cons.mpr ⟨by omega, (fun _ h => absurd h List.not_mem_nil)⟩)) (ltS [o] rfl (List.forall_mem_cons.mpr ⟨by omega, (fun _ h => absurd h List.not_mem_nil)⟩))) O_22 ?_
  rw [show ((8 : Int32)).toNatClampNeg = 8 by decide]
  obtain ⟨σ23, e23⟩ : ∃ x, x = mNew σ22 20 8 8 := ⟨_, rfl⟩
  rw [← e23, show σ22.2.1.length = o + 12 by omega]
  have N_23 : σ23.2.1.length = o + 13 := by rw [e23, len_new]; omega
  have T_23 : σ23.1 = σ.1 + 1601 := by rw [e23]; show σ22.1 + 8 = _; omega
  have O_23 : rOK σ23 := by rw [e23]; exact rOK_new O_22
  have X_23 : Ex σ σ23 o := by rw [e23]; exact X_22.new (by omega)
  have K_0_23 : σ23.2.1[o]? = some (10, 0) := by rw [e23]; exact k_new K_0_22
  have K_1_23 : σ23.2.1[o + 1]? = some (23, 43) := by rw [e23]; exact k_new K_1_22
  have K_2_23 : σ23.2.1[o + 2]? = some (20, 700) := by rw [e23]; exact k_new K_2_22
  have K_3_23 : σ23.2.1[o + 3]? = some (20, 100) := by rw [e23]; exact k_new K_3_22
  have K_4_23 : σ23.2.1[o + 4]? = some (20, 100) := by rw [e23]; exact k_new K_4_22
  have K_5_23 : σ23.2.1[o + 5]? = some (20, 101) := by rw [e23]; exact k_new K_5_22
  have K_6_23 : σ23.2.1[o + 6]? = some (20, 192) := by rw [e23]; exact k_new K_6_22
  have K_7_23 : σ23.2.1[o + 7]? = some (20, 48) := by rw [e23]; exact k_new K_7_22
  have K_8_23 : σ23.2.1[o + 8]? = some (20, 8) := by rw [e23]; exact k_new K_8_22
  have K_9_23 : σ23.2.1[o + 9]? = some (20, 100) := by rw [e23]; exact k_new K_9_22
  have K_10_23 : σ23.2.1[o + 10]? = some (20, 100) := by rw [e23]; exact k_new K_10_22
  have K_11_23 : σ23.2.1[o + 11]? = some (20, 101) := by rw [e23]; exact k_new K_11_22
  have G_0_2_23 : σ23.2.2.1 o 2 = some (o + 1) := by rw [e23]; exact g_new (by omega) G_0_2_22
  have G_0_3_23 : σ23.2.2.1 o 3 = some (o + 2) := by rw [e23]; exact g_new (by omega) G_0_3_22
  have G_0_13_23 : σ23.2.2.1 o 13 = some (o + 3) := by rw [e23]; exact g_new (by omega) G_0_13_22
  have G_0_14_23 : σ23.2.2.1 o 14 = some (o + 4) := by rw [e23]; exact g_new (by omega) G_0_14_22
  have G_0_15_23 : σ23.2.2.1 o 15 = some (o + 5) := by rw [e23]; exact g_new (by omega) G_0_15_22
  have G_0_16_23 : σ23.2.2.1 o 16 = some (o + 6) := by rw [e23]; exact g_new (by omega) G_0_16_22
  have G_0_17_23 : σ23.2.2.1 o 17 = some (o + 7) := by rw [e23]; exact g_new (by omega) G_0_17_22
  have G_0_18_23 : σ23.2.2.1 o 18 = some (o + 8) := by rw [e23]; exact g_new (by omega) G_0_18_22
  have G_0_19_23 : σ23.2.2.1 o 19 = some (o + 9) := by rw [e23]; exact g_new (by omega) G_0_19_22
  have G_0_20_23 : σ23.2.2.1 o 20 = some (o + 10) := by rw [e23]; exact g_new (by omega) G_0_20_22
  have G_0_21_23 : σ23.2.2.1 o 21 = some (o + 11) := by rw [e23]; exact g_new (by omega) G_0_21_22
  have R_0_23 : σ23.2.2.2.1 o = fun _ => 0 := by rw [e23]; exact (mup_ne (by omega)).trans R_0_22
  have R_1_23 : σ23.2.2.2.1 (o + 1) = fun _ => 0 := by rw [e23]; exact (mup_ne (by omega)).trans R_1_22
  have R_2_23 : σ23.2.2.2.1 (o + 2) = fun _ => 0 := by rw [e23]; exact (mup_ne (by omega)).trans R_2_22
  have R_3_23 : σ23.2.2.2.1 (o + 3) = fun _ => 0 := by rw [e23]; exact (mup_ne (by omega)).trans R_3_22
  have R_4_23 : σ23.2.2.2.1 (o + 4) = fun _ => 0 := by rw [e23]; exact (mup_ne (by omega)).trans R_4_22
  have R_5_23 : σ23.2.2.2.1 (o + 5) = fun _ => 0 := by rw [e23]; exact (mup_ne (by omega)).trans R_5_22
  have R_6_23 : σ23.2.2.2.1 (o + 6) = fun _ => 0 := by rw [e23]; exact (mup_ne (by omega)).trans R_6_22
  have R_7_23 : σ23.2.2.2.1 (o + 7) = fun _ => 0 := by rw [e23]; exact (mup_ne (by omega)).trans R_7_22
  have R_8_23 : σ23.2.2.2.1 (o + 8) = fun _ => 0 := by rw [e23]; exact (mup_ne (by omega)).trans R_8_22
  have R_9_23 : σ23.2.2.2.1 (o + 9) = fun _ => 0 := by rw [e23]; exact (mup_ne (by omega)).trans R_9_22
  have R_10_23 : σ23.2.2.2.1 (o + 10) = fun _ => 0 := by rw [e23]; exact (mup_ne (by omega)).trans R_10_22
  have R_11_23 : σ23.2.2.2.1 (o + 11) = fun _ => 0 := by rw [e23]; exact (mup_ne (by omega)).trans R_11_22
  have K_12_23 : σ23.2.1[o + 12]? = some (20, 8) := by rw [e23, ← show σ22.2.1.length = o + 12 by omega]; exact k_newS
  have R_12_23 : σ23.2.2.2.1 (o + 12) = fun _ => 0 := by rw [e23, ← show σ22.2.1.length = o + 12 by omega]; exact mup_eq
  clear K_0_22 K_1_22 K_2_22 K_3_22 K_4_22 K_5_22 K_6_22 K_7_22 K_8_22 K_9_22 K_10_22 K_11_22 G_0_2_22 G_0_3_22 G_0_13_22 G_0_14_22 G_0_15_22 G_0_16_22 G_0_17_22 G_0_18_22 G_0_19_22 G_0_20_22 G_0_21_22 R_0_22 R_1_22 R_2_22 R_3_22 R_4_22 R_5_22 R_6_22 R_7_22 R_8_22 R_9_22 R_10_22 R_11_22 N_22 T_22 O_22 X_22 e23 σ22
  show RC _ _ _ [some (.ref o), none, none, none] [.ref (o + 12), .ref o] σ23 _
  refine c_putr K_0_23 ?_
  obtain ⟨σ24, e24⟩ : ∃ x, x = mPr σ23 o 22 (some (o + 12)) := ⟨_, rfl⟩
  rw [← e24]
  have N_24 : σ24.2.1.length = o + 13 := by rw [e24]; exact N_23
  have T_24 : σ24.1 = σ.1 + 1601 := by rw [e24]; exact T_23
  have O_24 : rOK σ24 := by rw [e24]; exact rOK_pr O_23 (by omega)
  have X_24 : Ex σ σ24 o := by rw [e24]; exact X_23.pr (by omega)
  have K_0_24 : σ24.2.1[o]? = some (10, 0) := by rw [e24]; exact K_0_23
  have K_1_24 : σ24.2.1[o + 1]? = some (23, 43) := by rw [e24]; exact K_1_23
  have K_2_24 : σ24.2.1[o + 2]? = some (20, 700) := by rw [e24]; exact K_2_23
  have K_3_24 : σ24.2.1[o + 3]? = some (20, 100) := by rw [e24]; exact K_3_23
  have K_4_24 : σ24.2.1[o + 4]? = some (20, 100) := by rw [e24]; exact K_4_23
  have K_5_24 : σ24.2.1[o + 5]? = some (20, 101) := by rw [e24]; exact K_5_23
  have K_6_24 : σ24.2.1[o + 6]? = some (20, 192) := by rw [e24]; exact K_6_23
  have K_7_24 : σ24.2.1[o + 7]? = some (20, 48) := by rw [e24]; exact K_7_23
  have K_8_24 : σ24.2.1[o + 8]? = some (20, 8) := by rw [e24]; exact K_8_23
  have K_9_24 : σ24.2.1[o + 9]? = some (20, 100) := by rw [e24]; exact K_9_23
  have K_10_24 : σ24.2.1[o + 10]? = some (20, 100) := by rw [e24]; exact K_10_23
  have K_11_24 : σ24.2.1[o + 11]? = some (20, 101) := by rw [e24]; exact K_11_23
  have K_12_24 : σ24.2.1[o + 12]? = some (20, 8) := by rw [e24]; exact K_12_23
  have G_0_2_24 : σ24.2.2.1 o 2 = some (o + 1) := by rw [e24]; exact g_prK (by decide) G_0_2_23
  have G_0_3_24 : σ24.2.2.1 o 3 = some (o + 2) := by rw [e24]; exact g_prK (by decide) G_0_3_23
  have G_0_13_24 : σ24.2.2.1 o 13 = some (o + 3) := by rw [e24]; exact g_prK (by decide) G_0_13_23
  have G_0_14_24 : σ24.2.2.1 o 14 = some (o + 4) := by rw [e24]; exact g_prK (by decide) G_0_14_23
  have G_0_15_24 : σ24.2.2.1 o 15 = some (o + 5) := by rw [e24]; exact g_prK (by decide) G_0_15_23
  have G_0_16_24 : σ24.2.2.1 o 16 = some (o + 6) := by rw [e24]; exact g_prK (by decide) G_0_16_23
  have G_0_17_24 : σ24.2.2.1 o 17 = some (o + 7) := by rw [e24]; exact g_prK (by decide) G_0_17_23
  have G_0_18_24 : σ24.2.2.1 o 18 = some (o + 8) := by rw [e24]; exact g_prK (by decide) G_0_18_23
  have G_0_19_24 : σ24.2.2.1 o 19 = some (o + 9) := by rw [e24]; exact g_prK (by decide) G_0_19_23
  have G_0_20_24 : σ24.2.2.1 o 20 = some (o + 10) := by rw [e24]; exact g_prK (by decide) G_0_20_23
  have G_0_21_24 : σ24.2.2.1 o 21 = some (o + 11) := by rw [e24]; exact g_prK (by decide) G_0_21_23
  have R_0_24 : σ24.2.2.2.1 o = fun _ => 0 := by rw [e24]; exact R_0_23
  have R_1_24 : σ24.2.2.2.1 (o + 1) = fun _ => 0 := by rw [e24]; exact R_1_23
  have R_2_24 : σ24.2.2.2.1 (o + 2) = fun _ => 0 := by rw [e24]; exact R_2_23
  have R_3_24 : σ24.2.2.2.1 (o + 3) = fun _ => 0 := by rw [e24]; exact R_3_23
  have R_4_24 : σ24.2.2.2.1 (o + 4) = fun _ => 0 := by rw [e24]; exact R_4_23
  have R_5_24 : σ24.2.2.2.1 (o + 5) = fun _ => 0 := by rw [e24]; exact R_5_23
  have R_6_24 : σ24.2.2.2.1 (o + 6) = fun _ => 0 := by rw [e24]; exact R_6_23
  have R_7_24 : σ24.2.2.2.1 (o + 7) = fun _ => 0 := by rw [e24]; exact R_7_23
  have R_8_24 : σ24.2.2.2.1 (o + 8) = fun _ => 0 := by rw [e24]; exact R_8_23
  have R_9_24 : σ24.2.2.2.1 (o + 9) = fun _ => 0 := by rw [e24]; exact R_9_23
  have R_10_24 : σ24.2.2.2.1 (o + 10) = fun _ => 0 := by rw [e24]; exact R_10_23
  have R_11_24 : σ24.2.2.2.1 (o + 11) = fun _ => 0 := by rw [e24]; exact R_11_23
  have R_12_24 : σ24.2.2.2.1 (o + 12) = fun _ => 0 := by rw [e24]; exact R_12_23
  have G_0_22_24 : σ24.2.2.1 o 22 = some (o + 12) := by rw [e24]; exact g_prS
  clear K_0_23 K_1_23 K_2_23 K_3_23 K_4_23 K_5_23 K_6_23 K_7_23 K_8_23 K_9_23 K_10_23 K_11_23 K_12_23 G_0_2_23 G_0_3_23 G_0_13_23 G_0_14_23 G_0_15_23 G_0_16_23 G_0_17_23 G_0_18_23 G_0_19_23 G_0_20_23 G_0_21_23 R_0_23 R_1_23 R_2_23 R_3_23 R_4_23 R_5_23 R_6_23 R_7_23 R_8_23 R_9_23 R_10_23 R_11_23 R_12_23 N_23 T_23 O_23 X_23 e24 σ23
  show RC _ _ _ [some (.ref o), none, none, none] [] σ24 _
  refine c_aload rfl ?_
  refine c_int ?_
  refine c_newa (t := 3) (z := 101) (by decide) (by decide) (mOut_lt (ltL [o] rfl (List.forall_mem_cons.mpr ⟨by omega, (fun _ h => absurd h List.not_mem_nil)⟩)) (ltS [o] rfl (List.forall_mem_cons.mpr ⟨by omega, (fun _ h => absurd h List.not_mem_nil)⟩))) O_24 ?_
  rw [show ((101 : Int32)).toNatClampNeg = 101 by decide]
  obtain ⟨σ25, e25⟩ : ∃ x, x = mNew σ24 23 101 101 := ⟨_, rfl⟩
  rw [← e25, show σ24.2.1.length = o + 13 by omega]
  have N_25 : σ25.2.1.length = o + 14 := by rw [e25, len_new]; omega
  have T_25 : σ25.1 = σ.1 + 1702 := by rw [e25]; show σ24.1 + 101 = _; omega
  have O_25 : rOK σ25 := by rw [e25]; exact rOK_new O_24
  have X_25 : Ex σ σ25 o := by rw [e25]; exact X_24.new (by omega)
  have K_0_25 : σ25.2.1[o]? = some (10, 0) := by rw [e25]; exact k_new K_0_24
  have K_1_25 : σ25.2.1[o + 1]? = some (23, 43) := by rw [e25]; exact k_new K_1_24
  have K_2_25 : σ25.2.1[o + 2]? = some (20, 700) := by rw [e25]; exact k_new K_2_24
  have K_3_25 : σ25.2.1[o + 3]? = some (20, 100) := by rw [e25]; exact k_new K_3_24
  have K_4_25 : σ25.2.1[o + 4]? = some (20, 100) := by rw [e25]; exact k_new K_4_24
  have K_5_25 : σ25.2.1[o + 5]? = some (20, 101) := by rw [e25]; exact k_new K_5_24
  have K_6_25 : σ25.2.1[o + 6]? = some (20, 192) := by rw [e25]; exact k_new K_6_24
  have K_7_25 : σ25.2.1[o + 7]? = some (20, 48) := by rw [e25]; exact k_new K_7_24
  have K_8_25 : σ25.2.1[o + 8]? = some (20, 8) := by rw [e25]; exact k_new K_8_24
  have K_9_25 : σ25.2.1[o + 9]? = some (20, 100) := by rw [e25]; exact k_new K_9_24
  have K_10_25 : σ25.2.1[o + 10]? = some (20, 100) := by rw [e25]; exact k_new K_10_24
  have K_11_25 : σ25.2.1[o + 11]? = some (20, 101) := by rw [e25]; exact k_new K_11_24
  have K_12_25 : σ25.2.1[o + 12]? = some (20, 8) := by rw [e25]; exact k_new K_12_24
  have G_0_2_25 : σ25.2.2.1 o 2 = some (o + 1) := by rw [e25]; exact g_new (by omega) G_0_2_24
  have G_0_3_25 : σ25.2.2.1 o 3 = some (o + 2) := by rw [e25]; exact g_new (by omega) G_0_3_24
  have G_0_13_25 : σ25.2.2.1 o 13 = some (o + 3) := by rw [e25]; exact g_new (by omega) G_0_13_24
  have G_0_14_25 : σ25.2.2.1 o 14 = some (o + 4) := by rw [e25]; exact g_new (by omega) G_0_14_24
  have G_0_15_25 : σ25.2.2.1 o 15 = some (o + 5) := by rw [e25]; exact g_new (by omega) G_0_15_24
  have G_0_16_25 : σ25.2.2.1 o 16 = some (o + 6) := by rw [e25]; exact g_new (by omega) G_0_16_24
  have G_0_17_25 : σ25.2.2.1 o 17 = some (o + 7) := by rw [e25]; exact g_new (by omega) G_0_17_24
  have G_0_18_25 : σ25.2.2.1 o 18 = some (o + 8) := by rw [e25]; exact g_new (by omega) G_0_18_24
  have G_0_19_25 : σ25.2.2.1 o 19 = some (o + 9) := by rw [e25]; exact g_new (by omega) G_0_19_24
  have G_0_20_25 : σ25.2.2.1 o 20 = some (o + 10) := by rw [e25]; exact g_new (by omega) G_0_20_24
  have G_0_21_25 : σ25.2.2.1 o 21 = some (o + 11) := by rw [e25]; exact g_new (by omega) G_0_21_24
  have G_0_22_25 : σ25.2.2.1 o 22 = some (o + 12) := by rw [e25]; exact g_new (by omega) G_0_22_24
  have R_0_25 : σ25.2.2.2.1 o = fun _ => 0 := by rw [e25]; exact (mup_ne (by omega)).trans R_0_24
  have R_1_25 : σ25.2.2.2.1 (o + 1) = fun _ => 0 := by rw [e25]; exact (mup_ne (by omega)).trans R_1_24
  have R_2_25 : σ25.2.2.2.1 (o + 2) = fun _ => 0 := by rw [e25]; exact (mup_ne (by omega)).trans R_2_24
  have R_3_25 : σ25.2.2.2.1 (o + 3) = fun _ => 0 := by rw [e25]; exact (mup_ne (by omega)).trans R_3_24
  have R_4_25 : σ25.2.2.2.1 (o + 4) = fun _ => 0 := by rw [e25]; exact (mup_ne (by omega)).trans R_4_24
  have R_5_25 : σ25.2.2.2.1 (o + 5) = fun _ => 0 := by rw [e25]; exact (mup_ne (by omega)).trans R_5_24
  have R_6_25 : σ25.2.2.2.1 (o + 6) = fun _ => 0 := by rw [e25]; exact (mup_ne (by omega)).trans R_6_24
  have R_7_25 : σ25.2.2.2.1 (o + 7) = fun _ => 0 := by rw [e25]; exact (mup_ne (by omega)).trans R_7_24
  have R_8_25 : σ25.2.2.2.1 (o + 8) = fun _ => 0 := by rw [e25]; exact (mup_ne (by omega)).trans R_8_24
  have R_9_25 : σ25.2.2.2.1 (o + 9) = fun _ => 0 := by rw [e25]; exact (mup_ne (by omega)).trans R_9_24
  have R_10_25 : σ25.2.2.2.1 (o + 10) = fun _ => 0 := by rw [e25]; exact (mup_ne (by omega)).trans R_10_24
  have R_11_25 : σ25.2.2.2.1 (o + 11) = fun _ => 0 := by rw [e25]; exact (mup_ne (by omega)).trans R_11_24
  have R_12_25 : σ25.2.2.2.1 (o + 12) = fun _ => 0 := by rw [e25]; exact (mup_ne (by omega)).trans R_12_24
  have K_13_25 : σ25.2.1[o + 13]? = some (23, 101) := by rw [e25, ← show σ24.2.1.length = o + 13 by omega]; exact k_newS
  have R_13_25 : σ25.2.2.2.1 (o + 13) = fun _ => 0 := by rw [e25, ← show σ24.2.1.length = o + 13 by omega]; exact mup_eq
  clear K_0_24 K_1_24 K_2_24 K_3_24 K_4_24 K_5_24 K_6_24 K_7_24 K_8_24 K_9_24 K_10_24 K_11_24 K_12_24 G_0_2_24 G_0_3_24 G_0_13_24 G_0_14_24 G_0_15_24 G_0_16_24 G_0_17_24 G_0_18_24 G_0_19_24 G_0_20_24 G_0_21_24 G_0_22_24 R_0_24 R_1_24 R_2_24 R_3_24 R_4_24 R_5_24 R_6_24 R_7_24 R_8_24 R_9_24 R_10_24 R_11_24 R_12_24 N_24 T_24 O_24 X_24 e25 σ24
  show RC _ _ _ [some (.ref o), none, none, none] [.ref (o + 13), .ref o] σ25 _
  refine c_putr K_0_25 ?_
  obtain ⟨σ26, e26⟩ : ∃ x, x = mPr σ25 o 23 (some (o + 13)) := ⟨_, rfl⟩
  rw [← e26]
  have N_26 : σ26.2.1.length = o + 14 := by rw [e26]; exact N_25
  have T_26 : σ26.1 = σ.1 + 1702 := by rw [e26]; exact T_25
  have O_26 : rOK σ26 := by rw [e26]; exact rOK_pr O_25 (by omega)
  have X_26 : Ex σ σ26 o := by rw [e26]; exact X_25.pr (by omega)
  have K_0_26 : σ26.2.1[o]? = some (10, 0) := by rw [e26]; exact K_0_25
  have K_1_26 : σ26.2.1[o + 1]? = some (23, 43) := by rw [e26]; exact K_1_25
  have K_2_26 : σ26.2.1[o + 2]? = some (20, 700) := by rw [e26]; exact K_2_25
  have K_3_26 : σ26.2.1[o + 3]? = some (20, 100) := by rw [e26]; exact K_3_25
  have K_4_26 : σ26.2.1[o + 4]? = some (20, 100) := by rw [e26]; exact K_4_25
  have K_5_26 : σ26.2.1[o + 5]? = some (20, 101) := by rw [e26]; exact K_5_25
  have K_6_26 : σ26.2.1[o + 6]? = some (20, 192) := by rw [e26]; exact K_6_25
  have K_7_26 : σ26.2.1[o + 7]? = some (20, 48) := by rw [e26]; exact K_7_25
  have K_8_26 : σ26.2.1[o + 8]? = some (20, 8) := by rw [e26]; exact K_8_25
  have K_9_26 : σ26.2.1[o + 9]? = some (20, 100) := by rw [e26]; exact K_9_25
  have K_10_26 : σ26.2.1[o + 10]? = some (20, 100) := by rw [e26]; exact K_10_25
  have K_11_26 : σ26.2.1[o + 11]? = some (20, 101) := by rw [e26]; exact K_11_25
  have K_12_26 : σ26.2.1[o + 12]? = some (20, 8) := by rw [e26]; exact K_12_25
  have K_13_26 : σ26.2.1[o + 13]? = some (23, 101) := by rw [e26]; exact K_13_25
  have G_0_2_26 : σ26.2.2.1 o 2 = some (o + 1) := by rw [e26]; exact g_prK (by decide) G_0_2_25
  have G_0_3_26 : σ26.2.2.1 o 3 = some (o + 2) := by rw [e26]; exact g_prK (by decide) G_0_3_25
  have G_0_13_26 : σ26.2.2.1 o 13 = some (o + 3) := by rw [e26]; exact g_prK (by decide) G_0_13_25
  have G_0_14_26 : σ26.2.2.1 o 14 = some (o + 4) := by rw [e26]; exact g_prK (by decide) G_0_14_25
  have G_0_15_26 : σ26.2.2.1 o 15 = some (o + 5) := by rw [e26]; exact g_prK (by decide) G_0_15_25
  have G_0_16_26 : σ26.2.2.1 o 16 = some (o + 6) := by rw [e26]; exact g_prK (by decide) G_0_16_25
  have G_0_17_26 : σ26.2.2.1 o 17 = some (o + 7) := by rw [e26]; exact g_prK (by decide) G_0_17_25
  have G_0_18_26 : σ26.2.2.1 o 18 = some (o + 8) := by rw [e26]; exact g_prK (by decide) G_0_18_25
  have G_0_19_26 : σ26.2.2.1 o 19 = some (o + 9) := by rw [e26]; exact g_prK (by decide) G_0_19_25
  have G_0_20_26 : σ26.2.2.1 o 20 = some (o + 10) := by rw [e26]; exact g_prK (by decide) G_0_20_25
  have G_0_21_26 : σ26.2.2.1 o 21 = some (o + 11) := by rw [e26]; exact g_prK (by decide) G_0_21_25
  have G_0_22_26 : σ26.2.2.1 o 22 = some (o + 12) := by rw [e26]; exact g_prK (by decide) G_0_22_25
  have R_0_26 : σ26.2.2.2.1 o = fun _ => 0 := by rw [e26]; exact R_0_25
  have R_1_26 : σ26.2.2.2.1 (o + 1) = fun _ => 0 := by rw [e26]; exact R_1_25
  have R_2_26 : σ26.2.2.2.1 (o + 2) = fun _ => 0 := by rw [e26]; exact R_2_25
  have R_3_26 : σ26.2.2.2.1 (o + 3) = fun _ => 0 := by rw [e26]; exact R_3_25
  have R_4_26 : σ26.2.2.2.1 (o + 4) = fun _ => 0 := by rw [e26]; exact R_4_25
  have R_5_26 : σ26.2.2.2.1 (o + 5) = fun _ => 0 := by rw [e26]; exact R_5_25
  have R_6_26 : σ26.2.2.2.1 (o + 6) = fun _ => 0 := by rw [e26]; exact R_6_25
  have R_7_26 : σ26.2.2.2.1 (o + 7) = fun _ => 0 := by rw [e26]; exact R_7_25
  have R_8_26 : σ26.2.2.2.1 (o + 8) = fun _ => 0 := by rw [e26]; exact R_8_25
  have R_9_26 : σ26.2.2.2.1 (o + 9) = fun _ => 0 := by rw [e26]; exact R_9_25
  have R_10_26 : σ26.2.2.2.1 (o + 10) = fun _ => 0 := by rw [e26]; exact R_10_25
  have R_11_26 : σ26.2.2.2.1 (o + 11) = fun _ => 0 := by rw [e26]; exact R_11_25
  have R_12_26 : σ26.2.2.2.1 (o + 12) = fun _ => 0 := by rw [e26]; exact R_12_25
  have R_13_26 : σ26.2.2.2.1 (o + 13) = fun _ => 0 := by rw [e26]; exact R_13_25
  have G_0_23_26 : σ26.2.2.1 o 23 = some (o + 13) := by rw [e26]; exact g_prS
  clear K_0_25 K_1_25 K_2_25 K_3_25 K_4_25 K_5_25 K_6_25 K_7_25 K_8_25 K_9_25 K_10_25 K_11_25 K_12_25 K_13_25 G_0_2_25 G_0_3_25 G_0_13_25 G_0_14_25 G_0_15_25 G_0_16_25 G_0_17_25 G_0_18_25 G_0_19_25 G_0_20_25 G_0_21_25 G_0_22_25 R_0_25 R_1_25 R_2_25 R_3_25 R_4_25 R_5_25 R_6_25 R_7_25 R_8_25 R_9_25 R_10_25 R_11_25 R_12_25 R_13_25 N_25 T_25 O_25 X_25 e26 σ25
  show RC _ _ _ [some (.ref o), none, none, none] [] σ26 _
  refine c_aload rfl ?_
  refine c_int ?_
  refine c_newa (t := 3) (z := 112) (by decide) (by decide) (mOut_lt (ltL [o] rfl (List.forall_mem_cons.mpr ⟨by omega, (fun _ h => absurd h List.not_mem_nil)⟩)) (ltS [o] rfl (List.forall_mem_cons.mpr ⟨by omega, (fun _ h => absurd h List.not_mem_nil)⟩))) O_26 ?_
  rw [show ((112 : Int32)).toNatClampNeg = 112 by decide]
  obtain ⟨σ27, e27⟩ : ∃ x, x = mNew σ26 23 112 112 := ⟨_, rfl⟩
  rw [← e27, show σ26.2.1.length = o + 14 by omega]
  have N_27 : σ27.2.1.length = o + 15 := by rw [e27, len_new]; omega
  have T_27 : σ27.1 = σ.1 + 1814 := by rw [e27]; show σ26.1 + 112 = _; omega
  have O_27 : rOK σ27 := by rw [e27]; exact rOK_new O_26
  have X_27 : Ex σ σ27 o := by rw [e27]; exact X_26.new (by omega)
  have K_0_27 : σ27.2.1[o]? = some (10, 0) := by rw [e27]; exact k_new K_0_26
  have K_1_27 : σ27.2.1[o + 1]? = some (23, 43) := by rw [e27]; exact k_new K_1_26
  have K_2_27 : σ27.2.1[o + 2]? = some (20, 700) := by rw [e27]; exact k_new K_2_26
  have K_3_27 : σ27.2.1[o + 3]? = some (20, 100) := by rw [e27]; exact k_new K_3_26
  have K_4_27 : σ27.2.1[o + 4]? = some (20, 100) := by rw [e27]; exact k_new K_4_26
  have K_5_27 : σ27.2.1[o + 5]? = some (20, 101) := by rw [e27]; exact k_new K_5_26
  have K_6_27 : σ27.2.1[o + 6]? = some (20, 192) := by rw [e27]; exact k_new K_6_26
  have K_7_27 : σ27.2.1[o + 7]? = some (20, 48) := by rw [e27]; exact k_new K_7_26
  have K_8_27 : σ27.2.1[o + 8]? = some (20, 8) := by rw [e27]; exact k_new K_8_26
  have K_9_27 : σ27.2.1[o + 9]? = some (20, 100) := by rw [e27]; exact k_new K_9_26
  have K_10_27 : σ27.2.1[o + 10]? = some (20, 100) := by rw [e27]; exact k_new K_10_26
  have K_11_27 : σ27.2.1[o + 11]? = some (20, 101) := by rw [e27]; exact k_new K_11_26
  have K_12_27 : σ27.2.1[o + 12]? = some (20, 8) := by rw [e27]; exact k_new K_12_26
  have K_13_27 : σ27.2.1[o + 13]? = some (23, 101) := by rw [e27]; exact k_new K_13_26
  have G_0_2_27 : σ27.2.2.1 o 2 = some (o + 1) := by rw [e27]; exact g_new (by omega) G_0_2_26
  have G_0_3_27 : σ27.2.2.1 o 3 = some (o + 2) := by rw [e27]; exact g_new (by omega) G_0_3_26
  have G_0_13_27 : σ27.2.2.1 o 13 = some (o + 3) := by rw [e27]; exact g_new (by omega) G_0_13_26
  have G_0_14_27 : σ27.2.2.1 o 14 = some (o + 4) := by rw [e27]; exact g_new (by omega) G_0_14_26
  have G_0_15_27 : σ27.2.2.1 o 15 = some (o + 5) := by rw [e27]; exact g_new (by omega) G_0_15_26
  have G_0_16_27 : σ27.2.2.1 o 16 = some (o + 6) := by rw [e27]; exact g_new (by omega) G_0_16_26
  have G_0_17_27 : σ27.2.2.1 o 17 = some (o + 7) := by rw [e27]; exact g_new (by omega) G_0_17_26
  have G_0_18_27 : σ27.2.2.1 o 18 = some (o + 8) := by rw [e27]; exact g_new (by omega) G_0_18_26
  have G_0_19_27 : σ27.2.2.1 o 19 = some (o + 9) := by rw [e27]; exact g_new (by omega) G_0_19_26
  have G_0_20_27 : σ27.2.2.1 o 20 = some (o + 10) := by rw [e27]; exact g_new (by omega) G_0_20_26
  have G_0_21_27 : σ27.2.2.1 o 21 = some (o + 11) := by rw [e27]; exact g_new (by omega) G_0_21_26
  have G_0_22_27 : σ27.2.2.1 o 22 = some (o + 12) := by rw [e27]; exact g_new (by omega) G_0_22_26
  have G_0_23_27 : σ27.2.2.1 o 23 = some (o + 13) := by rw [e27]; exact g_new (by omega) G_0_23_26
  have R_0_27 : σ27.2.2.2.1 o = fun _ => 0 := by rw [e27]; exact (mup_ne (by omega)).trans R_0_26
  have R_1_27 : σ27.2.2.2.1 (o + 1) = fun _ => 0 := by rw [e27]; exact (mup_ne (by omega)).trans R_1_26
  have R_2_27 : σ27.2.2.2.1 (o + 2) = fun _ => 0 := by rw [e27]; exact (mup_ne (by omega)).trans R_2_26
  have R_3_27 : σ27.2.2.2.1 (o + 3) = fun _ => 0 := by rw [e27]; exact (mup_ne (by omega)).trans R_3_26
  have R_4_27 : σ27.2.2.2.1 (o + 4) = fun _ => 0 := by rw [e27]; exact (mup_ne (by omega)).trans R_4_26
  have R_5_27 : σ27.2.2.2.1 (o + 5) = fun _ => 0 := by rw [e27]; exact (mup_ne (by omega)).trans R_5_26
  have R_6_27 : σ27.2.2.2.1 (o + 6) = fun _ => 0 := by rw [e27]; exact (mup_ne (by omega)).trans R_6_26
  have R_7_27 : σ27.2.2.2.1 (o + 7) = fun _ => 0 := by rw [e27]; exact (mup_ne (by omega)).trans R_7_26
  have R_8_27 : σ27.2.2.2.1 (o + 8) = fun _ => 0 := by rw [e27]; exact (mup_ne (by omega)).trans R_8_26
  have R_9_27 : σ27.2.2.2.1 (o + 9) = fun _ => 0 := by rw [e27]; exact (mup_ne (by omega)).trans R_9_26
  have R_10_27 : σ27.2.2.2.1 (o + 10) = fun _ => 0 := by rw [e27]; exact (mup_ne (by omega)).trans R_10_26
  have R_11_27 : σ27.2.2.2.1 (o + 11) = fun _ => 0 := by rw [e27]; exact (mup_ne (by omega)).trans R_11_26
  have R_12_27 : σ27.2.2.2.1 (o + 12) = fun _ => 0 := by rw [e27]; exact (mup_ne (by omega)).trans R_12_26
  have R_13_27 : σ27.2.2.2.1 (o + 13) = fun _ => 0 := by rw [e27]; exact (mup_ne (by omega)).trans R_13_26
  have K_14_27 : σ27.2.1[o + 14]? = some (23, 112) := by rw [e27, ← show σ26.2.1.length = o + 14 by omega]; exact k_newS
  have R_14_27 : σ27.2.2.2.1 (o + 14) = fun _ => 0 := by rw [e27, ← show σ26.2.1.length = o + 14 by omega]; exact mup_eq
  clear K_0_26 K_1_26 K_2_26 K_3_26 K_4_26 K_5_26 K_6_26 K_7_26 K_8_26 K_9_26 K_10_26 K_11_26 K_12_26 K_13_26 G_0_2_26 G_0_3_26 G_0_13_26 G_0_14_26 G_0_15_26 G_0_16_26 G_0_17_26 G_0_18_26 G_0_19_26 G_0_20_26 G_0_21_26 G_0_22_26 G_0_23_26 R_0_26 R_1_26 R_2_26 R_3_26 R_4_26 R_5_26 R_6_26 R_7_26 R_8_26 R_9_26 R_10_26 R_11_26 R_12_26 R_13_26 N_26 T_26 O_26 X_26 e27 σ26
  show RC _ _ _ [some (.ref o), none, none, none] [.ref (o + 14), .ref o] σ27 _
  refine c_putr K_0_27 ?_
  obtain ⟨σ28, e28⟩ : ∃ x, x = mPr σ27 o 24 (some (o + 14)) := ⟨_, rfl⟩
  rw [← e28]
  have N_28 : σ28.2.1.length = o + 15 := by rw [e28]; exact N_27
  have T_28 : σ28.1 = σ.1 + 1814 := by rw [e28]; exact T_27
  have O_28 : rOK σ28 := by rw [e28]; exact rOK_pr O_27 (by omega)
  have X_28 : Ex σ σ28 o := by rw [e28]; exact X_27.pr (by omega)
  have K_0_28 : σ28.2.1[o]? = some (10, 0) := by rw [e28]; exact K_0_27
  have K_1_28 : σ28.2.1[o + 1]? = some (23, 43) := by rw [e28]; exact K_1_27
  have K_2_28 : σ28.2.1[o + 2]? = some (20, 700) := by rw [e28]; exact K_2_27
  have K_3_28 : σ28.2.1[o + 3]? = some (20, 100) := by rw [e28]; exact K_3_27
  have K_4_28 : σ28.2.1[o + 4]? = some (20, 100) := by rw [e28]; exact K_4_27
  have K_5_28 : σ28.2.1[o + 5]? = some (20, 101) := by rw [e28]; exact K_5_27
  have K_6_28 : σ28.2.1[o + 6]? = some (20, 192) := by rw [e28]; exact K_6_27
  have K_7_28 : σ28.2.1[o + 7]? = some (20, 48) := by rw [e28]; exact K_7_27
  have K_8_28 : σ28.2.1[o + 8]? = some (20, 8) := by rw [e28]; exact K_8_27
  have K_9_28 : σ28.2.1[o + 9]? = some (20, 100) := by rw [e28]; exact K_9_27
  have K_10_28 : σ28.2.1[o + 10]? = some (20, 100) := by rw [e28]; exact K_10_27
  have K_11_28 : σ28.2.1[o + 11]? = some (20, 101) := by rw [e28]; exact K_11_27
  have K_12_28 : σ28.2.1[o + 12]? = some (20, 8) := by rw [e28]; exact K_12_27
  have K_13_28 : σ28.2.1[o + 13]? = some (23, 101) := by rw [e28]; exact K_13_27
  have K_14_28 : σ28.2.1[o + 14]? = some (23, 112) := by rw [e28]; exact K_14_27
  have G_0_2_28 : σ28.2.2.1 o 2 = some (o + 1) := by rw [e28]; exact g_prK (by decide) G_0_2_27
  have G_0_3_28 : σ28.2.2.1 o 3 = some (o + 2) := by rw [e28]; exact g_prK (by decide) G_0_3_27
  have G_0_13_28 : σ28.2.2.1 o 13 = some (o + 3) := by rw [e28]; exact g_prK (by decide) G_0_13_27
  have G_0_14_28 : σ28.2.2.1 o 14 = some (o + 4) := by rw [e28]; exact g_prK (by decide) G_0_14_27
  have G_0_15_28 : σ28.2.2.1 o 15 = some (o + 5) := by rw [e28]; exact g_prK (by decide) G_0_15_27
  have G_0_16_28 : σ28.2.2.1 o 16 = some (o + 6) := by rw [e28]; exact g_prK (by decide) G_0_16_27
  have G_0_17_28 : σ28.2.2.1 o 17 = some (o + 7) := by rw [e28]; exact g_prK (by decide) G_0_17_27
  have G_0_18_28 : σ28.2.2.1 o 18 = some (o + 8) := by rw [e28]; exact g_prK (by decide) G_0_18_27
  have G_0_19_28 : σ28.2.2.1 o 19 = some (o + 9) := by rw [e28]; exact g_prK (by decide) G_0_19_27
  have G_0_20_28 : σ28.2.2.1 o 20 = some (o + 10) := by rw [e28]; exact g_prK (by decide) G_0_20_27
  have G_0_21_28 : σ28.2.2.1 o 21 = some (o + 11) := by rw [e28]; exact g_prK (by decide) G_0_21_27
  have G_0_22_28 : σ28.2.2.1 o 22 = some (o + 12) := by rw [e28]; exact g_prK (by decide) G_0_22_27
  have G_0_23_28 : σ28.2.2.1 o 23 = some (o + 13) := by rw [e28]; exact g_prK (by decide) G_0_23_27
  have R_0_28 : σ28.2.2.2.1 o = fun _ => 0 := by rw [e28]; exact R_0_27
  have R_1_28 : σ28.2.2.2.1 (o + 1) = fun _ => 0 := by rw [e28]; exact R_1_27
  have R_2_28 : σ28.2.2.2.1 (o + 2) = fun _ => 0 := by rw [e28]; exact R_2_27
  have R_3_28 : σ28.2.2.2.1 (o + 3) = fun _ => 0 := by rw [e28]; exact R_3_27
  have R_4_28 : σ28.2.2.2.1 (o + 4) = fun _ => 0 := by rw [e28]; exact R_4_27
  have R_5_28 : σ28.2.2.2.1 (o + 5) = fun _ => 0 := by rw [e28]; exact R_5_27
  have R_6_28 : σ28.2.2.2.1 (o + 6) = fun _ => 0 := by rw [e28]; exact R_6_27
  have R_7_28 : σ28.2.2.2.1 (o + 7) = fun _ => 0 := by rw [e28]; exact R_7_27
  have R_8_28 : σ28.2.2.2.1 (o + 8) = fun _ => 0 := by rw [e28]; exact R_8_27
  have R_9_28 : σ28.2.2.2.1 (o + 9) = fun _ => 0 := by rw [e28]; exact R_9_27
  have R_10_28 : σ28.2.2.2.1 (o + 10) = fun _ => 0 := by rw [e28]; exact R_10_27
  have R_11_28 : σ28.2.2.2.1 (o + 11) = fun _ => 0 := by rw [e28]; exact R_11_27
  have R_12_28 : σ28.2.2.2.1 (o + 12) = fun _ => 0 := by rw [e28]; exact R_12_27
  have R_13_28 : σ28.2.2.2.1 (o + 13) = fun _ => 0 := by rw [e28]; exact R_13_27
  have R_14_28 : σ28.2.2.2.1 (o + 14) = fun _ => 0 := by rw [e28]; exact R_14_27
  have G_0_24_28 : σ28.2.2.1 o 24 = some (o + 14) := by rw [e28]; exact g_prS
  clear K_0_27 K_1_27 K_2_27 K_3_27 K_4_27 K_5_27 K_6_27 K_7_27 K_8_27 K_9_27 K_10_27 K_11_27 K_12_27 K_13_27 K_14_27 G_0_2_27 G_0_3_27 G_0_13_27 G_0_14_27 G_0_15_27 G_0_16_27 G_0_17_27 G_0_18_27 G_0_19_27 G_0_20_27 G_0_21_27 G_0_22_27 G_0_23_27 R_0_27 R_1_27 R_2_27 R_3_27 R_4_27 R_5_27 R_6_27 R_7_27 R_8_27 R_9_27 R_10_27 R_11_27 R_12_27 R_13_27 R_14_27 N_27 T_27 O_27 X_27 e28 σ27
  show RC _ _ _ [some (.ref o), none, none, none] [] σ28 _
  refine c_aload rfl ?_
  refine c_int ?_
  refine c_newa (t := 0) (z := 112) (by decide) (by decide) (mOut_lt (ltL [o] rfl (List.forall_mem_cons.mpr ⟨by omega, (fun _ h => absurd h List.not_mem_nil)⟩)) (ltS [o] rfl (List.forall_mem_cons.mpr ⟨by omega, (fun _ h => absurd h List.not_mem_nil)⟩))) O_28 ?_
  rw [show ((112 : Int32)).toNatClampNeg = 112 by decide]
  obtain ⟨σ29, e29⟩ : ∃ x, x = mNew σ28 20 112 112 := ⟨_, rfl⟩
  rw [← e29, show σ28.2.1.length = o + 15 by omega]
  have N_29 : σ29.2.1.length = o + 16 := by rw [e29, len_new]; omega
  have T_29 : σ29.1 = σ.1 + 1926 := by rw [e29]; show σ28.1 + 112 = _; omega
  have O_29 : rOK σ29 := by rw [e29]; exact rOK_new O_28
  have X_29 : Ex σ σ29 o := by rw [e29]; exact X_28.new (by omega)
  have K_0_29 : σ29.2.1[o]? = some (10, 0) := by rw [e29]; exact k_new K_0_28
  have K_1_29 : σ29.2.1[o + 1]? = some (23, 43) := by rw [e29]; exact k_new K_1_28
  have K_2_29 : σ29.2.1[o + 2]? = some (20, 700) := by rw [e29]; exact k_new K_2_28
  have K_3_29 : σ29.2.1[o + 3]? = some (20, 100) := by rw [e29]; exact k_new K_3_28
  have K_4_29 : σ29.2.1[o + 4]? = some (20, 100) := by rw [e29]; exact k_new K_4_28
  have K_5_29 : σ29.2.1[o + 5]? = some (20, 101) := by rw [e29]; exact k_new K_5_28
  have K_6_29 : σ29.2.1[o + 6]? = some (20, 192) := by rw [e29]; exact k_new K_6_28
  have K_7_29 : σ29.2.1[o + 7]? = some (20, 48) := by rw [e29]; exact k_new K_7_28
  have K_8_29 : σ29.2.1[o + 8]? = some (20, 8) := by rw [e29]; exact k_new K_8_28
  have K_9_29 : σ29.2.1[o + 9]? = some (20, 100) := by rw [e29]; exact k_new K_9_28
  have K_10_29 : σ29.2.1[o + 10]? = some (20, 100) := by rw [e29]; exact k_new K_10_28
  have K_11_29 : σ29.2.1[o + 11]? = some (20, 101) := by rw [e29]; exact k_new K_11_28
  have K_12_29 : σ29.2.1[o + 12]? = some (20, 8) := by rw [e29]; exact k_new K_12_28
  have K_13_29 : σ29.2.1[o + 13]? = some (23, 101) := by rw [e29]; exact k_new K_13_28
  have K_14_29 : σ29.2.1[o + 14]? = some (23, 112) := by rw [e29]; exact k_new K_14_28
  have G_0_2_29 : σ29.2.2.1 o 2 = some (o + 1) := by rw [e29]; exact g_new (by omega) G_0_2_28
  have G_0_3_29 : σ29.2.2.1 o 3 = some (o + 2) := by rw [e29]; exact g_new (by omega) G_0_3_28
  have G_0_13_29 : σ29.2.2.1 o 13 = some (o + 3) := by rw [e29]; exact g_new (by omega) G_0_13_28
  have G_0_14_29 : σ29.2.2.1 o 14 = some (o + 4) := by rw [e29]; exact g_new (by omega) G_0_14_28
  have G_0_15_29 : σ29.2.2.1 o 15 = some (o + 5) := by rw [e29]; exact g_new (by omega) G_0_15_28
  have G_0_16_29 : σ29.2.2.1 o 16 = some (o + 6) := by rw [e29]; exact g_new (by omega) G_0_16_28
  have G_0_17_29 : σ29.2.2.1 o 17 = some (o + 7) := by rw [e29]; exact g_new (by omega) G_0_17_28
  have G_0_18_29 : σ29.2.2.1 o 18 = some (o + 8) := by rw [e29]; exact g_new (by omega) G_0_18_28
  have G_0_19_29 : σ29.2.2.1 o 19 = some (o + 9) := by rw [e29]; exact g_new (by omega) G_0_19_28
  have G_0_20_29 : σ29.2.2.1 o 20 = some (o + 10) := by rw [e29]; exact g_new (by omega) G_0_20_28
  have G_0_21_29 : σ29.2.2.1 o 21 = some (o + 11) := by rw [e29]; exact g_new (by omega) G_0_21_28
  have G_0_22_29 : σ29.2.2.1 o 22 = some (o + 12) := by rw [e29]; exact g_new (by omega) G_0_22_28
  have G_0_23_29 : σ29.2.2.1 o 23 = some (o + 13) := by rw [e29]; exact g_new (by omega) G_0_23_28
  have G_0_24_29 : σ29.2.2.1 o 24 = some (o + 14) := by rw [e29]; exact g_new (by omega) G_0_24_28
  have R_0_29 : σ29.2.2.2.1 o = fun _ => 0 := by rw [e29]; exact (mup_ne (by omega)).trans R_0_28
  have R_1_29 : σ29.2.2.2.1 (o + 1) = fun _ => 0 := by rw [e29]; exact (mup_ne (by omega)).trans R_1_28
  have R_2_29 : σ29.2.2.2.1 (o + 2) = fun _ => 0 := by rw [e29]; exact (mup_ne (by omega)).trans R_2_28
  have R_3_29 : σ29.2.2.2.1 (o + 3) = fun _ => 0 := by rw [e29]; exact (mup_ne (by omega)).trans R_3_28
  have R_4_29 : σ29.2.2.2.1 (o + 4) = fun _ => 0 := by rw [e29]; exact (mup_ne (by omega)).trans R_4_28
  have R_5_29 : σ29.2.2.2.1 (o + 5) = fun _ => 0 := by rw [e29]; exact (mup_ne (by omega)).trans R_5_28
  have R_6_29 : σ29.2.2.2.1 (o + 6) = fun _ => 0 := by rw [e29]; exact (mup_ne (by omega)).trans R_6_28
  have R_7_29 : σ29.2.2.2.1 (o + 7) = fun _ => 0 := by rw [e29]; exact (mup_ne (by omega)).trans R_7_28
  have R_8_29 : σ29.2.2.2.1 (o + 8) = fun _ => 0 := by rw [e29]; exact (mup_ne (by omega)).trans R_8_28
  have R_9_29 : σ29.2.2.2.1 (o + 9) = fun _ => 0 := by rw [e29]; exact (mup_ne (by omega)).trans R_9_28
  have R_10_29 : σ29.2.2.2.1 (o + 10) = fun _ => 0 := by rw [e29]; exact (mup_ne (by omega)).trans R_10_28
  have R_11_29 : σ29.2.2.2.1 (o + 11) = fun _ => 0 := by rw [e29]; exact (mup_ne (by omega)).trans R_11_28
  have R_12_29 : σ29.2.2.2.1 (o + 12) = fun _ => 0 := by rw [e29]; exact (mup_ne (by omega)).trans R_12_28
  have R_13_29 : σ29.2.2.2.1 (o + 13) = fun _ => 0 := by rw [e29]; exact (mup_ne (by omega)).trans R_13_28
  have R_14_29 : σ29.2.2.2.1 (o + 14) = fun _ => 0 := by rw [e29]; exact (mup_ne (by omega)).trans R_14_28
  have K_15_29 : σ29.2.1[o + 15]? = some (20, 112) := by rw [e29, ← show σ28.2.1.length = o + 15 by omega]; exact k_newS
  have R_15_29 : σ29.2.2.2.1 (o + 15) = fun _ => 0 := by rw [e29, ← show σ28.2.1.length = o + 15 by omega]; exact mup_eq
  clear K_0_28 K_1_28 K_2_28 K_3_28 K_4_28 K_5_28 K_6_28 K_7_28 K_8_28 K_9_28 K_10_28 K_11_28 K_12_28 K_13_28 K_14_28 G_0_2_28 G_0_3_28 G_0_13_28 G_0_14_28 G_0_15_28 G_0_16_28 G_0_17_28 G_0_18_28 G_0_19_28 G_0_20_28 G_0_21_28 G_0_22_28 G_0_23_28 G_0_24_28 R_0_28 R_1_28 R_2_28 R_3_28 R_4_28 R_5_28 R_6_28 R_7_28 R_8_28 R_9_28 R_10_28 R_11_28 R_12_28 R_13_28 R_14_28 N_28 T_28 O_28 X_28 e29 σ28
  show RC _ _ _ [some (.ref o), none, none, none] [.ref (o + 15), .ref o] σ29 _
  refine c_putr K_0_29 ?_
  obtain ⟨σ30, e30⟩ : ∃ x, x = mPr σ29 o 25 (some (o + 15)) := ⟨_, rfl⟩
  rw [← e30]
  have N_30 : σ30.2.1.length = o + 16 := by rw [e30]; exact N_29
  have T_30 : σ30.1 = σ.1 + 1926 := by rw [e30]; exact T_29
  have O_30 : rOK σ30 := by rw [e30]; exact rOK_pr O_29 (by omega)
  have X_30 : Ex σ σ30 o := by rw [e30]; exact X_29.pr (by omega)
  have K_0_30 : σ30.2.1[o]? = some (10, 0) := by rw [e30]; exact K_0_29
  have K_1_30 : σ30.2.1[o + 1]? = some (23, 43) := by rw [e30]; exact K_1_29
  have K_2_30 : σ30.2.1[o + 2]? = some (20, 700) := by rw [e30]; exact K_2_29
  have K_3_30 : σ30.2.1[o + 3]? = some (20, 100) := by rw [e30]; exact K_3_29
  have K_4_30 : σ30.2.1[o + 4]? = some (20, 100) := by rw [e30]; exact K_4_29
  have K_5_30 : σ30.2.1[o + 5]? = some (20, 101) := by rw [e30]; exact K_5_29
  have K_6_30 : σ30.2.1[o + 6]? = some (20, 192) := by rw [e30]; exact K_6_29
  have K_7_30 : σ30.2.1[o + 7]? = some (20, 48) := by rw [e30]; exact K_7_29
  have K_8_30 : σ30.2.1[o + 8]? = some (20, 8) := by rw [e30]; exact K_8_29
  have K_9_30 : σ30.2.1[o + 9]? = some (20, 100) := by rw [e30]; exact K_9_29
  have K_10_30 : σ30.2.1[o + 10]? = some (20, 100) := by rw [e30]; exact K_10_29
  have K_11_30 : σ30.2.1[o + 11]? = some (20, 101) := by rw [e30]; exact K_11_29
  have K_12_30 : σ30.2.1[o + 12]? = some (20, 8) := by rw [e30]; exact K_12_29
  have K_13_30 : σ30.2.1[o + 13]? = some (23, 101) := by rw [e30]; exact K_13_29
  have K_14_30 : σ30.2.1[o + 14]? = some (23, 112) := by rw [e30]; exact K_14_29
  have K_15_30 : σ30.2.1[o + 15]? = some (20, 112) := by rw [e30]; exact K_15_29
  have G_0_2_30 : σ30.2.2.1 o 2 = some (o + 1) := by rw [e30]; exact g_prK (by decide) G_0_2_29
  have G_0_3_30 : σ30.2.2.1 o 3 = some (o + 2) := by rw [e30]; exact g_prK (by decide) G_0_3_29
  have G_0_13_30 : σ30.2.2.1 o 13 = some (o + 3) := by rw [e30]; exact g_prK (by decide) G_0_13_29
  have G_0_14_30 : σ30.2.2.1 o 14 = some (o + 4) := by rw [e30]; exact g_prK (by decide) G_0_14_29
  have G_0_15_30 : σ30.2.2.1 o 15 = some (o + 5) := by rw [e30]; exact g_prK (by decide) G_0_15_29
  have G_0_16_30 : σ30.2.2.1 o 16 = some (o + 6) := by rw [e30]; exact g_prK (by decide) G_0_16_29
  have G_0_17_30 : σ30.2.2.1 o 17 = some (o + 7) := by rw [e30]; exact g_prK (by decide) G_0_17_29
  have G_0_18_30 : σ30.2.2.1 o 18 = some (o + 8) := by rw [e30]; exact g_prK (by decide) G_0_18_29
  have G_0_19_30 : σ30.2.2.1 o 19 = some (o + 9) := by rw [e30]; exact g_prK (by decide) G_0_19_29
  have G_0_20_30 : σ30.2.2.1 o 20 = some (o + 10) := by rw [e30]; exact g_prK (by decide) G_0_20_29
  have G_0_21_30 : σ30.2.2.1 o 21 = some (o + 11) := by rw [e30]; exact g_prK (by decide) G_0_21_29
  have G_0_22_30 : σ30.2.2.1 o 22 = some (o + 12) := by rw [e30]; exact g_prK (by decide) G_0_22_29
  have G_0_23_30 : σ30.2.2.1 o 23 = some (o + 13) := by rw [e30]; exact g_prK (by decide) G_0_23_29
  have G_0_24_30 : σ30.2.2.1 o 24 = some (o + 14) := by rw [e30]; exact g_prK (by decide) G_0_24_29
  have R_0_30 : σ30.2.2.2.1 o = fun _ => 0 := by rw [e30]; exact R_0_29
  have R_1_30 : σ30.2.2.2.1 (o + 1) = fun _ => 0 := by rw [e30]; exact R_1_29
  have R_2_30 : σ30.2.2.2.1 (o + 2) = fun _ => 0 := by rw [e30]; exact R_2_29
  have R_3_30 : σ30.2.2.2.1 (o + 3) = fun _ => 0 := by rw [e30]; exact R_3_29
  have R_4_30 : σ30.2.2.2.1 (o + 4) = fun _ => 0 := by rw [e30]; exact R_4_29
  have R_5_30 : σ30.2.2.2.1 (o + 5) = fun _ => 0 := by rw [e30]; exact R_5_29
  have R_6_30 : σ30.2.2.2.1 (o + 6) = fun _ => 0 := by rw [e30]; exact R_6_29
  have R_7_30 : σ30.2.2.2.1 (o + 7) = fun _ => 0 := by rw [e30]; exact R_7_29
  have R_8_30 : σ30.2.2.2.1 (o + 8) = fun _ => 0 := by rw [e30]; exact R_8_29
  have R_9_30 : σ30.2.2.2.1 (o + 9) = fun _ => 0 := by rw [e30]; exact R_9_29
  have R_10_30 : σ30.2.2.2.1 (o + 10) = fun _ => 0 := by rw [e30]; exact R_10_29
  have R_11_30 : σ30.2.2.2.1 (o + 11) = fun _ => 0 := by rw [e30]; exact R_11_29
  have R_12_30 : σ30.2.2.2.1 (o + 12) = fun _ => 0 := by rw [e30]; exact R_12_29
  have R_13_30 : σ30.2.2.2.1 (o + 13) = fun _ => 0 := by rw [e30]; exact R_13_29
  have R_14_30 : σ30.2.2.2.1 (o + 14) = fun _ => 0 := by rw [e30]; exact R_14_29
  have R_15_30 : σ30.2.2.2.1 (o + 15) = fun _ => 0 := by rw [e30]; exact R_15_29
  have G_0_25_30 : σ30.2.2.1 o 25 = some (o + 15) := by rw [e30]; exact g_prS
  clear K_0_29 K_1_29 K_2_29 K_3_29 K_4_29 K_5_29 K_6_29 K_7_29 K_8_29 K_9_29 K_10_29 K_11_29 K_12_29 K_13_29 K_14_29 K_15_29 G_0_2_29 G_0_3_29 G_0_13_29 G_0_14_29 G_0_15_29 G_0_16_29 G_0_17_29 G_0_18_29 G_0_19_29 G_0_20_29 G_0_21_29 G_0_22_29 G_0_23_29 G_0_24_29 R_0_29 R_1_29 R_2_29 R_3_29 R_4_29 R_5_29 R_6_29 R_7_29 R_8_29 R_9_29 R_10_29 R_11_29 R_12_29 R_13_29 R_14_29 R_15_29 N_29 T_29 O_29 X_29 e30 σ29
  show RC _ _ _ [some (.ref o), none, none, none] [] σ30 _
  refine c_aload rfl ?_
  refine c_int ?_
  refine c_newa (t := 0) (z := 112) (by decide) (by decide) (mOut_lt (ltL [o] rfl (List.forall_mem_cons.mpr ⟨by omega, (fun _ h => absurd h List.not_mem_nil)⟩)) (ltS [o] rfl (List.forall_mem_cons.mpr ⟨by omega, (fun _ h => absurd h List.not_mem_nil)⟩))) O_30 ?_
  rw [show ((112 : Int32)).toNatClampNeg = 112 by decide]
  obtain ⟨σ31, e31⟩ : ∃ x, x = mNew σ30 20 112 112 := ⟨_, rfl⟩
  rw [← e31, show σ30.2.1.length = o + 16 by omega]
  have N_31 : σ31.2.1.length = o + 17 := by rw [e31, len_new]; omega
  have T_31 : σ31.1 = σ.1 + 2038 := by rw [e31]; show σ30.1 + 112 = _; omega
  have O_31 : rOK σ31 := by rw [e31]; exact rOK_new O_30
  have X_31 : Ex σ σ31 o := by rw [e31]; exact X_30.new (by omega)
  have K_0_31 : σ31.2.1[o]? = some (10, 0) := by rw [e31]; exact k_new K_0_30
  have K_1_31 : σ31.2.1[o + 1]? = some (23, 43) := by rw [e31]; exact k_new K_1_30
  have K_2_31 : σ31.2.1[o + 2]? = some (20, 700) := by rw [e31]; exact k_new K_2_30
  have K_3_31 : σ31.2.1[o + 3]? = some (20, 100) := by rw [e31]; exact k_new K_3_30
  have K_4_31 : σ31.2.1[o + 4]? = some (20, 100) := by rw [e31]; exact k_new K_4_30
  have K_5_31 : σ31.2.1[o + 5]? = some (20, 101) := by rw [e31]; exact k_new K_5_30
  have K_6_31 : σ31.2.1[o + 6]? = some (20, 192) := by rw [e31]; exact k_new K_6_30
  have K_7_31 : σ31.2.1[o + 7]? = some (20, 48) := by rw [e31]; exact k_new K_7_30
  have K_8_31 : σ31.2.1[o + 8]? = some (20, 8) := by rw [e31]; exact k_new K_8_30
  have K_9_31 : σ31.2.1[o + 9]? = some (20, 100) := by rw [e31]; exact k_new K_9_30
  have K_10_31 : σ31.2.1[o + 10]? = some (20, 100) := by rw [e31]; exact k_new K_10_30
  have K_11_31 : σ31.2.1[o + 11]? = some (20, 101) := by rw [e31]; exact k_new K_11_30
  have K_12_31 : σ31.2.1[o + 12]? = some (20, 8) := by rw [e31]; exact k_new K_12_30
  have K_13_31 : σ31.2.1[o + 13]? = some (23, 101) := by rw [e31]; exact k_new K_13_30
  have K_14_31 : σ31.2.1[o + 14]? = some (23, 112) := by rw [e31]; exact k_new K_14_30
  have K_15_31 : σ31.2.1[o + 15]? = some (20, 112) := by rw [e31]; exact k_new K_15_30
  have G_0_2_31 : σ31.2.2.1 o 2 = some (o + 1) := by rw [e31]; exact g_new (by omega) G_0_2_30
  have G_0_3_31 : σ31.2.2.1 o 3 = some (o + 2) := by rw [e31]; exact g_new (by omega) G_0_3_30
  have G_0_13_31 : σ31.2.2.1 o 13 = some (o + 3) := by rw [e31]; exact g_new (by omega) G_0_13_30
  have G_0_14_31 : σ31.2.2.1 o 14 = some (o + 4) := by rw [e31]; exact g_new (by omega) G_0_14_30
  have G_0_15_31 : σ31.2.2.1 o 15 = some (o + 5) := by rw [e31]; exact g_new (by omega) G_0_15_30
  have G_0_16_31 : σ31.2.2.1 o 16 = some (o + 6) := by rw [e31]; exact g_new (by omega) G_0_16_30
  have G_0_17_31 : σ31.2.2.1 o 17 = some (o + 7) := by rw [e31]; exact g_new (by omega) G_0_17_30
  have G_0_18_31 : σ31.2.2.1 o 18 = some (o + 8) := by rw [e31]; exact g_new (by omega) G_0_18_30
  have G_0_19_31 : σ31.2.2.1 o 19 = some (o + 9) := by rw [e31]; exact g_new (by omega) G_0_19_30
  have G_0_20_31 : σ31.2.2.1 o 20 = some (o + 10) := by rw [e31]; exact g_new (by omega) G_0_20_30
  have G_0_21_31 : σ31.2.2.1 o 21 = some (o + 11) := by rw [e31]; exact g_new (by omega) G_0_21_30
  have G_0_22_31 : σ31.2.2.1 o 22 = some (o + 12) := by rw [e31]; exact g_new (by omega) G_0_22_30
  have G_0_23_31 : σ31.2.2.1 o 23 = some (o + 13) := by rw [e31]; exact g_new (by omega) G_0_23_30
  have G_0_24_31 : σ31.2.2.1 o 24 = some (o + 14) := by rw [e31]; exact g_new (by omega) G_0_24_30
  have G_0_25_31 : σ31.2.2.1 o 25 = some (o + 15) := by rw [e31]; exact g_new (by omega) G_0_25_30
  have R_0_31 : σ31.2.2.2.1 o = fun _ => 0 := by rw [e31]; exact (mup_ne (by omega)).trans R_0_30
  have R_1_31 : σ31.2.2.2.1 (o + 1) = fun _ => 0 := by rw [e31]; exact (mup_ne (by omega)).trans R_1_30
  have R_2_31 : σ31.2.2.2.1 (o + 2) = fun _ => 0 := by rw [e31]; exact (mup_ne (by omega)).trans R_2_30
  have R_3_31 : σ31.2.2.2.1 (o + 3) = fun _ => 0 := by rw [e31]; exact (mup_ne (by omega)).trans R_3_30
  have R_4_31 : σ31.2.2.2.1 (o + 4) = fun _ => 0 := by rw [e31]; exact (mup_ne (by omega)).trans R_4_30
  have R_5_31 : σ31.2.2.2.1 (o + 5) = fun _ => 0 := by rw [e31]; exact (mup_ne (by omega)).trans R_5_30
  have R_6_31 : σ31.2.2.2.1 (o + 6) = fun _ => 0 := by rw [e31]; exact (mup_ne (by omega)).trans R_6_30
  have R_7_31 : σ31.2.2.2.1 (o + 7) = fun _ => 0 := by rw [e31]; exact (mup_ne (by omega)).trans R_7_30
  have R_8_31 : σ31.2.2.2.1 (o + 8) = fun _ => 0 := by rw [e31]; exact (mup_ne (by omega)).trans R_8_30
  have R_9_31 : σ31.2.2.2.1 (o + 9) = fun _ => 0 := by rw [e31]; exact (mup_ne (by omega)).trans R_9_30
  have R_10_31 : σ31.2.2.2.1 (o + 10) = fun _ => 0 := by rw [e31]; exact (mup_ne (by omega)).trans R_10_30
  have R_11_31 : σ31.2.2.2.1 (o + 11) = fun _ => 0 := by rw [e31]; exact (mup_ne (by omega)).trans R_11_30
  have R_12_31 : σ31.2.2.2.1 (o + 12) = fun _ => 0 := by rw [e31]; exact (mup_ne (by omega)).trans R_12_30
  have R_13_31 : σ31.2.2.2.1 (o + 13) = fun _ => 0 := by rw [e31]; exact (mup_ne (by omega)).trans R_13_30
  have R_14_31 : σ31.2.2.2.1 (o + 14) = fun _ => 0 := by rw [e31]; exact (mup_ne (by omega)).trans R_14_30
  have R_15_31 : σ31.2.2.2.1 (o + 15) = fun _ => 0 := by rw [e31]; exact (mup_ne (by omega)).trans R_15_30
  have K_16_31 : σ31.2.1[o + 16]? = some (20, 112) := by rw [e31, ← show σ30.2.1.length = o + 16 by omega]; exact k_newS
  have R_16_31 : σ31.2.2.2.1 (o + 16) = fun _ => 0 := by rw [e31, ← show σ30.2.1.length = o + 16 by omega]; exact mup_eq
  clear K_0_30 K_1_30 K_2_30 K_3_30 K_4_30 K_5_30 K_6_30 K_7_30 K_8_30 K_9_30 K_10_30 K_11_30 K_12_30 K_13_30 K_14_30 K_15_30 G_0_2_30 G_0_3_30 G_0_13_30 G_0_14_30 G_0_15_30 G_0_16_30 G_0_17_30 G_0_18_30 G_0_19_30 G_0_20_30 G_0_21_30 G_0_22_30 G_0_23_30 G_0_24_30 G_0_25_30 R_0_30 R_1_30 R_2_30 R_3_30 R_4_30 R_5_30 R_6_30 R_7_30 R_8_30 R_9_30 R_10_30 R_11_30 R_12_30 R_13_30 R_14_30 R_15_30 N_30 T_30 O_30 X_30 e31 σ30
  show RC _ _ _ [some (.ref o), none, none, none] [.ref (o + 16), .ref o] σ31 _
  refine c_putr K_0_31 ?_
  obtain ⟨σ32, e32⟩ : ∃ x, x = mPr σ31 o 26 (some (o + 16)) := ⟨_, rfl⟩
  rw [← e32]
  have N_32 : σ32.2.1.length = o + 17 := by rw [e32]; exact N_31
  have T_32 : σ32.1 = σ.1 + 2038 := by rw [e32]; exact T_31
  have O_32 : rOK σ32 := by rw [e32]; exact rOK_pr O_31 (by omega)
  have X_32 : Ex σ σ32 o := by rw [e32]; exact X_31.pr (by omega)
  have K_0_32 : σ32.2.1[o]? = some (10, 0) := by rw [e32]; exact K_0_31
  have K_1_32 : σ32.2.1[o + 1]? = some (23, 43) := by rw [e32]; exact K_1_31
  have K_2_32 : σ32.2.1[o + 2]? = some (20, 700) := by rw [e32]; exact K_2_31
  have K_3_32 : σ32.2.1[o + 3]? = some (20, 100) := by rw [e32]; exact K_3_31
  have K_4_32 : σ32.2.1[o + 4]? = some (20, 100) := by rw [e32]; exact K_4_31
  have K_5_32 : σ32.2.1[o + 5]? = some (20, 101) := by rw [e32]; exact K_5_31
  have K_6_32 : σ32.2.1[o + 6]? = some (20, 192) := by rw [e32]; exact K_6_31
  have K_7_32 : σ32.2.1[o + 7]? = some (20, 48) := by rw [e32]; exact K_7_31
  have K_8_32 : σ32.2.1[o + 8]? = some (20, 8) := by rw [e32]; exact K_8_31
  have K_9_32 : σ32.2.1[o + 9]? = some (20, 100) := by rw [e32]; exact K_9_31
  have K_10_32 : σ32.2.1[o + 10]? = some (20, 100) := by rw [e32]; exact K_10_31
  have K_11_32 : σ32.2.1[o + 11]? = some (20, 101) := by rw [e32]; exact K_11_31
  have K_12_32 : σ32.2.1[o + 12]? = some (20, 8) := by rw [e32]; exact K_12_31
  have K_13_32 : σ32.2.1[o + 13]? = some (23, 101) := by rw [e32]; exact K_13_31
  have K_14_32 : σ32.2.1[o + 14]? = some (23, 112) := by rw [e32]; exact K_14_31
  have K_15_32 : σ32.2.1[o + 15]? = some (20, 112) := by rw [e32]; exact K_15_31
  have K_16_32 : σ32.2.1[o + 16]? = some (20, 112) := by rw [e32]; exact K_16_31
  have G_0_2_32 : σ32.2.2.1 o 2 = some (o + 1) := by rw [e32]; exact g_prK (by decide) G_0_2_31
  have G_0_3_32 : σ32.2.2.1 o 3 = some (o + 2) := by rw [e32]; exact g_prK (by decide) G_0_3_31
  have G_0_13_32 : σ32.2.2.1 o 13 = some (o + 3) := by rw [e32]; exact g_prK (by decide) G_0_13_31
  have G_0_14_32 : σ32.2.2.1 o 14 = some (o + 4) := by rw [e32]; exact g_prK (by decide) G_0_14_31
  have G_0_15_32 : σ32.2.2.1 o 15 = some (o + 5) := by rw [e32]; exact g_prK (by decide) G_0_15_31
  have G_0_16_32 : σ32.2.2.1 o 16 = some (o + 6) := by rw [e32]; exact g_prK (by decide) G_0_16_31
  have G_0_17_32 : σ32.2.2.1 o 17 = some (o + 7) := by rw [e32]; exact g_prK (by decide) G_0_17_31
  have G_0_18_32 : σ32.2.2.1 o 18 = some (o + 8) := by rw [e32]; exact g_prK (by decide) G_0_18_31
  have G_0_19_32 : σ32.2.2.1 o 19 = some (o + 9) := by rw [e32]; exact g_prK (by decide) G_0_19_31
  have G_0_20_32 : σ32.2.2.1 o 20 = some (o + 10) := by rw [e32]; exact g_prK (by decide) G_0_20_31
  have G_0_21_32 : σ32.2.2.1 o 21 = some (o + 11) := by rw [e32]; exact g_prK (by decide) G_0_21_31
  have G_0_22_32 : σ32.2.2.1 o 22 = some (o + 12) := by rw [e32]; exact g_prK (by decide) G_0_22_31
  have G_0_23_32 : σ32.2.2.1 o 23 = some (o + 13) := by rw [e32]; exact g_prK (by decide) G_0_23_31
  have G_0_24_32 : σ32.2.2.1 o 24 = some (o + 14) := by rw [e32]; exact g_prK (by decide) G_0_24_31
  have G_0_25_32 : σ32.2.2.1 o 25 = some (o + 15) := by rw [e32]; exact g_prK (by decide) G_0_25_31
  have R_0_32 : σ32.2.2.2.1 o = fun _ => 0 := by rw [e32]; exact R_0_31
  have R_1_32 : σ32.2.2.2.1 (o + 1) = fun _ => 0 := by rw [e32]; exact R_1_31
  have R_2_32 : σ32.2.2.2.1 (o + 2) = fun _ => 0 := by rw [e32]; exact R_2_31
  have R_3_32 : σ32.2.2.2.1 (o + 3) = fun _ => 0 := by rw [e32]; exact R_3_31
  have R_4_32 : σ32.2.2.2.1 (o + 4) = fun _ => 0 := by rw [e32]; exact R_4_31
  have R_5_32 : σ32.2.2.2.1 (o + 5) = fun _ => 0 := by rw [e32]; exact R_5_31
  have R_6_32 : σ32.2.2.2.1 (o + 6) = fun _ => 0 := by rw [e32]; exact R_6_31
  have R_7_32 : σ32.2.2.2.1 (o + 7) = fun _ => 0 := by rw [e32]; exact R_7_31
  have R_8_32 : σ32.2.2.2.1 (o + 8) = fun _ => 0 := by rw [e32]; exact R_8_31
  have R_9_32 : σ32.2.2.2.1 (o + 9) = fun _ => 0 := by rw [e32]; exact R_9_31
  have R_10_32 : σ32.2.2.2.1 (o + 10) = fun _ => 0 := by rw [e32]; exact R_10_31
  have R_11_32 : σ32.2.2.2.1 (o + 11) = fun _ => 0 := by rw [e32]; exact R_11_31
  have R_12_32 : σ32.2.2.2.1 (o + 12) = fun _ => 0 := by rw [e32]; exact R_12_31
  have R_13_32 : σ32.2.2.2.1 (o + 13) = fun _ => 0 := by rw [e32]; exact R_13_31
  have R_14_32 : σ32.2.2.2.1 (o + 14) = fun _ => 0 := by rw [e32]; exact R_14_31
  have R_15_32 : σ32.2.2.2.1 (o + 15) = fun _ => 0 := by rw [e32]; exact R_15_31
  have R_16_32 : σ32.2.2.2.1 (o + 16) = fun _ => 0 := by rw [e32]; exact R_16_31
  have G_0_26_32 : σ32.2.2.1 o 26 = some (o + 16) := by rw [e32]; exact g_prS
  clear K_0_31 K_1_31 K_2_31 K_3_31 K_4_31 K_5_31 K_6_31 K_7_31 K_8_31 K_9_31 K_10_31 K_11_31 K_12_31 K_13_31 K_14_31 K_15_31 K_16_31 G_0_2_31 G_0_3_31 G_0_13_31 G_0_14_31 G_0_15_31 G_0_16_31 G_0_17_31 G_0_18_31 G_0_19_31 G_0_20_31 G_0_21_31 G_0_22_31 G_0_23_31 G_0_24_31 G_0_25_31 R_0_31 R_1_31 R_2_31 R_3_31 R_4_31 R_5_31 R_6_31 R_7_31 R_8_31 R_9_31 R_10_31 R_11_31 R_12_31 R_13_31 R_14_31 R_15_31 R_16_31 N_31 T_31 O_31 X_31 e32 σ31
  show RC _ _ _ [some (.ref o), none, none, none] [] σ32 _
  refine c_aload rfl ?_
  refine c_int ?_
  refine c_newa (t := 0) (z := 532) (by decide) (by decide) (mOut_lt (ltL [o] rfl (List.forall_mem_cons.mpr ⟨by omega, (fun _ h => absurd h List.not_mem_nil)⟩)) (ltS [o] rfl (List.forall_mem_cons.mpr ⟨by omega, (fun _ h => absurd h List.not_mem_nil)⟩))) O_32 ?_
  rw [show ((532 : Int32)).toNatClampNeg = 532 by decide]
  obtain ⟨σ33, e33⟩ : ∃ x, x = mNew σ32 20 532 532 := ⟨_, rfl⟩
  rw [← e33, show σ32.2.1.length = o + 17 by omega]
  have N_33 : σ33.2.1.length = o + 18 := by rw [e33, len_new]; omega
  have T_33 : σ33.1 = σ.1 + 2570 := by rw [e33]; show σ32.1 + 532 = _; omega
  have O_33 : rOK σ33 := by rw [e33]; exact rOK_new O_32
  have X_33 : Ex σ σ33 o := by rw [e33]; exact X_32.new (by omega)
  have K_0_33 : σ33.2.1[o]? = some (10, 0) := by rw [e33]; exact k_new K_0_32
  have K_1_33 : σ33.2.1[o + 1]? = some (23, 43) := by rw [e33]; exact k_new K_1_32
  have K_2_33 : σ33.2.1[o + 2]? = some (20, 700) := by rw [e33]; exact k_new K_2_32
  have K_3_33 : σ33.2.1[o + 3]? = some (20, 100) := by rw [e33]; exact k_new K_3_32
  have K_4_33 : σ33.2.1[o + 4]? = some (20, 100) := by rw [e33]; exact k_new K_4_32
  have K_5_33 : σ33.2.1[o + 5]? = some (20, 101) := by rw [e33]; exact k_new K_5_32
  have K_6_33 : σ33.2.1[o + 6]? = some (20, 192) := by rw [e33]; exact k_new K_6_32
  have K_7_33 : σ33.2.1[o + 7]? = some (20, 48) := by rw [e33]; exact k_new K_7_32
  have K_8_33 : σ33.2.1[o + 8]? = some (20, 8) := by rw [e33]; exact k_new K_8_32
  have K_9_33 : σ33.2.1[o + 9]? = some (20, 100) := by rw [e33]; exact k_new K_9_32
  have K_10_33 : σ33.2.1[o + 10]? = some (20, 100) := by rw [e33]; exact k_new K_10_32
  have K_11_33 : σ33.2.1[o + 11]? = some (20, 101) := by rw [e33]; exact k_new K_11_32
  have K_12_33 : σ33.2.1[o + 12]? = some (20, 8) := by rw [e33]; exact k_new K_12_32
  have K_13_33 : σ33.2.1[o + 13]? = some (23, 101) := by rw [e33]; exact k_new K_13_32
  have K_14_33 : σ33.2.1[o + 14]? = some (23, 112) := by rw [e33]; exact k_new K_14_32
  have K_15_33 : σ33.2.1[o + 15]? = some (20, 112) := by rw [e33]; exact k_new K_15_32
  have K_16_33 : σ33.2.1[o + 16]? = some (20, 112) := by rw [e33]; exact k_new K_16_32
  have G_0_2_33 : σ33.2.2.1 o 2 = some (o + 1) := by rw [e33]; exact g_new (by omega) G_0_2_32
  have G_0_3_33 : σ33.2.2.1 o 3 = some (o + 2) := by rw [e33]; exact g_new (by omega) G_0_3_32
  have G_0_13_33 : σ33.2.2.1 o 13 = some (o + 3) := by rw [e33]; exact g_new (by omega) G_0_13_32
  have G_0_14_33 : σ33.2.2.1 o 14 = some (o + 4) := by rw [e33]; exact g_new (by omega) G_0_14_32
  have G_0_15_33 : σ33.2.2.1 o 15 = some (o + 5) := by rw [e33]; exact g_new (by omega) G_0_15_32
  have G_0_16_33 : σ33.2.2.1 o 16 = some (o + 6) := by rw [e33]; exact g_new (by omega) G_0_16_32
  have G_0_17_33 : σ33.2.2.1 o 17 = some (o + 7) := by rw [e33]; exact g_new (by omega) G_0_17_32
  have G_0_18_33 : σ33.2.2.1 o 18 = some (o + 8) := by rw [e33]; exact g_new (by omega) G_0_18_32
  have G_0_19_33 : σ33.2.2.1 o 19 = some (o + 9) := by rw [e33]; exact g_new (by omega) G_0_19_32
  have G_0_20_33 : σ33.2.2.1 o 20 = some (o + 10) := by rw [e33]; exact g_new (by omega) G_0_20_32
  have G_0_21_33 : σ33.2.2.1 o 21 = some (o + 11) := by rw [e33]; exact g_new (by omega) G_0_21_32
  have G_0_22_33 : σ33.2.2.1 o 22 = some (o + 12) := by rw [e33]; exact g_new (by omega) G_0_22_32
  have G_0_23_33 : σ33.2.2.1 o 23 = some (o + 13) := by rw [e33]; exact g_new (by omega) G_0_23_32
  have G_0_24_33 : σ33.2.2.1 o 24 = some (o + 14) := by rw [e33]; exact g_new (by omega) G_0_24_32
  have G_0_25_33 : σ33.2.2.1 o 25 = some (o + 15) := by rw [e33]; exact g_new (by omega) G_0_25_32
  have G_0_26_33 : σ33.2.2.1 o 26 = some (o + 16) := by rw [e33]; exact g_new (by omega) G_0_26_32
  have R_0_33 : σ33.2.2.2.1 o = fun _ => 0 := by rw [e33]; exact (mup_ne (by omega)).trans R_0_32
  have R_1_33 : σ33.2.2.2.1 (o + 1) = fun _ => 0 := by rw [e33]; exact (mup_ne (by omega)).trans R_1_32
  have R_2_33 : σ33.2.2.2.1 (o + 2) = fun _ => 0 := by rw [e33]; exact (mup_ne (by omega)).trans R_2_32
  have R_3_33 : σ33.2.2.2.1 (o + 3) = fun _ => 0 := by rw [e33]; exact (mup_ne (by omega)).trans R_3_32
  have R_4_33 : σ33.2.2.2.1 (o + 4) = fun _ => 0 := by rw [e33]; exact (mup_ne (by omega)).trans R_4_32
  have R_5_33 : σ33.2.2.2.1 (o + 5) = fun _ => 0 := by rw [e33]; exact (mup_ne (by omega)).trans R_5_32
  have R_6_33 : σ33.2.2.2.1 (o + 6) = fun _ => 0 := by rw [e33]; exact (mup_ne (by omega)).trans R_6_32
  have R_7_33 : σ33.2.2.2.1 (o + 7) = fun _ => 0 := by rw [e33]; exact (mup_ne (by omega)).trans R_7_32
  have R_8_33 : σ33.2.2.2.1 (o + 8) = fun _ => 0 := by rw [e33]; exact (mup_ne (by omega)).trans R_8_32
  have R_9_33 : σ33.2.2.2.1 (o + 9) = fun _ => 0 := by rw [e33]; exact (mup_ne (by omega)).trans R_9_32
  have R_10_33 : σ33.2.2.2.1 (o + 10) = fun _ => 0 := by rw [e33]; exact (mup_ne (by omega)).trans R_10_32
  have R_11_33 : σ33.2.2.2.1 (o + 11) = fun _ => 0 := by rw [e33]; exact (mup_ne (by omega)).trans R_11_32
  have R_12_33 : σ33.2.2.2.1 (o + 12) = fun _ => 0 := by rw [e33]; exact (mup_ne (by omega)).trans R_12_32
  have R_13_33 : σ33.2.2.2.1 (o + 13) = fun _ => 0 := by rw [e33]; exact (mup_ne (by omega)).trans R_13_32
  have R_14_33 : σ33.2.2.2.1 (o + 14) = fun _ => 0 := by rw [e33]; exact (mup_ne (by omega)).trans R_14_32
  have R_15_33 : σ33.2.2.2.1 (o + 15) = fun _ => 0 := by rw [e33]; exact (mup_ne (by omega)).trans R_15_32
  have R_16_33 : σ33.2.2.2.1 (o + 16) = fun _ => 0 := by rw [e33]; exact (mup_ne (by omega)).trans R_16_32
  have K_17_33 : σ33.2.1[o + 17]? = some (20, 532) := by rw [e33, ← show σ32.2.1.length = o + 17 by omega]; exact k_newS
  have R_17_33 : σ33.2.2.2.1 (o + 17) = fun _ => 0 := by rw [e33, ← show σ32.2.1.length = o + 17 by omega]; exact mup_eq
  clear K_0_32 K_1_32 K_2_32 K_3_32 K_4_32 K_5_32 K_6_32 K_7_32 K_8_32 K_9_32 K_10_32 K_11_32 K_12_32 K_13_32 K_14_32 K_15_32 K_16_32 G_0_2_32 G_0_3_32 G_0_13_32 G_0_14_32 G_0_15_32 G_0_16_32 G_0_17_32 G_0_18_32 G_0_19_32 G_0_20_32 G_0_21_32 G_0_22_32 G_0_23_32 G_0_24_32 G_0_25_32 G_0_26_32 R_0_32 R_1_32 R_2_32 R_3_32 R_4_32 R_5_32 R_6_32 R_7_32 R_8_32 R_9_32 R_10_32 R_11_32 R_12_32 R_13_32 R_14_32 R_15_32 R_16_32 N_32 T_32 O_32 X_32 e33 σ32
  show RC _ _ _ [some (.ref o), none, none, none] [.ref (o + 17), .ref o] σ33 _
  refine c_putr K_0_33 ?_
  obtain ⟨σ34, e34⟩ : ∃ x, x = mPr σ33 o 38 (some (o + 17)) := ⟨_, rfl⟩
  rw [← e34]
  have N_34 : σ34.2.1.length = o + 18 := by rw [e34]; exact N_33
  have T_34 : σ34.1 = σ.1 + 2570 := by rw [e34]; exact T_33
  have O_34 : rOK σ34 := by rw [e34]; exact rOK_pr O_33 (by omega)
  have X_34 : Ex σ σ34 o := by rw [e34]; exact X_33.pr (by omega)
  have K_0_34 : σ34.2.1[o]? = some (10, 0) := by rw [e34]; exact K_0_33
  have K_1_34 : σ34.2.1[o + 1]? = some (23, 43) := by rw [e34]; exact K_1_33
  have K_2_34 : σ34.2.1[o + 2]? = some (20, 700) := by rw [e34]; exact K_2_33
  have K_3_34 : σ34.2.1[o + 3]? = some (20, 100) := by rw [e34]; exact K_3_33
  have K_4_34 : σ34.2.1[o + 4]? = some (20, 100) := by rw [e34]; exact K_4_33
  have K_5_34 : σ34.2.1[o + 5]? = some (20, 101) := by rw [e34]; exact K_5_33
  have K_6_34 : σ34.2.1[o + 6]? = some (20, 192) := by rw [e34]; exact K_6_33
  have K_7_34 : σ34.2.1[o + 7]? = some (20, 48) := by rw [e34]; exact K_7_33
  have K_8_34 : σ34.2.1[o + 8]? = some (20, 8) := by rw [e34]; exact K_8_33
  have K_9_34 : σ34.2.1[o + 9]? = some (20, 100) := by rw [e34]; exact K_9_33
  have K_10_34 : σ34.2.1[o + 10]? = some (20, 100) := by rw [e34]; exact K_10_33
  have K_11_34 : σ34.2.1[o + 11]? = some (20, 101) := by rw [e34]; exact K_11_33
  have K_12_34 : σ34.2.1[o + 12]? = some (20, 8) := by rw [e34]; exact K_12_33
  have K_13_34 : σ34.2.1[o + 13]? = some (23, 101) := by rw [e34]; exact K_13_33
  have K_14_34 : σ34.2.1[o + 14]? = some (23, 112) := by rw [e34]; exact K_14_33
  have K_15_34 : σ34.2.1[o + 15]? = some (20, 112) := by rw [e34]; exact K_15_33
  have K_16_34 : σ34.2.1[o + 16]? = some (20, 112) := by rw [e34]; exact K_16_33
  have K_17_34 : σ34.2.1[o + 17]? = some (20, 532) := by rw [e34]; exact K_17_33
  have G_0_2_34 : σ34.2.2.1 o 2 = some (o + 1) := by rw [e34]; exact g_prK (by decide) G_0_2_33
  have G_0_3_34 : σ34.2.2.1 o 3 = some (o + 2) := by rw [e34]; exact g_prK (by decide) G_0_3_33
  have G_0_13_34 : σ34.2.2.1 o 13 = some (o + 3) := by rw [e34]; exact g_prK (by decide) G_0_13_33
  have G_0_14_34 : σ34.2.2.1 o 14 = some (o + 4) := by rw [e34]; exact g_prK (by decide) G_0_14_33
  have G_0_15_34 : σ34.2.2.1 o 15 = some (o + 5) := by rw [e34]; exact g_prK (by decide) G_0_15_33
  have G_0_16_34 : σ34.2.2.1 o 16 = some (o + 6) := by rw [e34]; exact g_prK (by decide) G_0_16_33
  have G_0_17_34 : σ34.2.2.1 o 17 = some (o + 7) := by rw [e34]; exact g_prK (by decide) G_0_17_33
  have G_0_18_34 : σ34.2.2.1 o 18 = some (o + 8) := by rw [e34]; exact g_prK (by decide) G_0_18_33
  have G_0_19_34 : σ34.2.2.1 o 19 = some (o + 9) := by rw [e34]; exact g_prK (by decide) G_0_19_33
  have G_0_20_34 : σ34.2.2.1 o 20 = some (o + 10) := by rw [e34]; exact g_prK (by decide) G_0_20_33
  have G_0_21_34 : σ34.2.2.1 o 21 = some (o + 11) := by rw [e34]; exact g_prK (by decide) G_0_21_33
  have G_0_22_34 : σ34.2.2.1 o 22 = some (o + 12) := by rw [e34]; exact g_prK (by decide) G_0_22_33
  have G_0_23_34 : σ34.2.2.1 o 23 = some (o + 13) := by rw [e34]; exact g_prK (by decide) G_0_23_33
  have G_0_24_34 : σ34.2.2.1 o 24 = some (o + 14) := by rw [e34]; exact g_prK (by decide) G_0_24_33
  have G_0_25_34 : σ34.2.2.1 o 25 = some (o + 15) := by rw [e34]; exact g_prK (by decide) G_0_25_33
  have G_0_26_34 : σ34.2.2.1 o 26 = some (o + 16) := by rw [e34]; exact g_prK (by decide) G_0_26_33
  have R_0_34 : σ34.2.2.2.1 o = fun _ => 0 := by rw [e34]; exact R_0_33
  have R_1_34 : σ34.2.2.2.1 (o + 1) = fun _ => 0 := by rw [e34]; exact R_1_33
  have R_2_34 : σ34.2.2.2.1 (o + 2) = fun _ => 0 := by rw [e34]; exact R_2_33
  have R_3_34 : σ34.2.2.2.1 (o + 3) = fun _ => 0 := by rw [e34]; exact R_3_33
  have R_4_34 : σ34.2.2.2.1 (o + 4) = fun _ => 0 := by rw [e34]; exact R_4_33
  have R_5_34 : σ34.2.2.2.1 (o + 5) = fun _ => 0 := by rw [e34]; exact R_5_33
  have R_6_34 : σ34.2.2.2.1 (o + 6) = fun _ => 0 := by rw [e34]; exact R_6_33
  have R_7_34 : σ34.2.2.2.1 (o + 7) = fun _ => 0 := by rw [e34]; exact R_7_33
  have R_8_34 : σ34.2.2.2.1 (o + 8) = fun _ => 0 := by rw [e34]; exact R_8_33
  have R_9_34 : σ34.2.2.2.1 (o + 9) = fun _ => 0 := by rw [e34]; exact R_9_33
  have R_10_34 : σ34.2.2.2.1 (o + 10) = fun _ => 0 := by rw [e34]; exact R_10_33
  have R_11_34 : σ34.2.2.2.1 (o + 11) = fun _ => 0 := by rw [e34]; exact R_11_33
  have R_12_34 : σ34.2.2.2.1 (o + 12) = fun _ => 0 := by rw [e34]; exact R_12_33
  have R_13_34 : σ34.2.2.2.1 (o + 13) = fun _ => 0 := by rw [e34]; exact R_13_33
  have R_14_34 : σ34.2.2.2.1 (o + 14) = fun _ => 0 := by rw [e34]; exact R_14_33
  have R_15_34 : σ34.2.2.2.1 (o + 15) = fun _ => 0 := by rw [e34]; exact R_15_33
  have R_16_34 : σ34.2.2.2.1 (o + 16) = fun _ => 0 := by rw [e34]; exact R_16_33
  have R_17_34 : σ34.2.2.2.1 (o + 17) = fun _ => 0 := by rw [e34]; exact R_17_33
  have G_0_38_34 : σ34.2.2.1 o 38 = some (o + 17) := by rw [e34]; exact g_prS
  clear K_0_33 K_1_33 K_2_33 K_3_33 K_4_33 K_5_33 K_6_33 K_7_33 K_8_33 K_9_33 K_10_33 K_11_33 K_12_33 K_13_33 K_14_33 K_15_33 K_16_33 K_17_33 G_0_2_33 G_0_3_33 G_0_13_33 G_0_14_33 G_0_15_33 G_0_16_33 G_0_17_33 G_0_18_33 G_0_19_33 G_0_20_33 G_0_21_33 G_0_22_33 G_0_23_33 G_0_24_33 G_0_25_33 G_0_26_33 R_0_33 R_1_33 R_2_33 R_3_33 R_4_33 R_5_33 R_6_33 R_7_33 R_8_33 R_9_33 R_10_33 R_11_33 R_12_33 R_13_33 R_14_33 R_15_33 R_16_33 R_17_33 N_33 T_33 O_33 X_33 e34 σ33
  show RC _ _ _ [some (.ref o), none, none, none] [] σ34 _
  refine c_aload rfl ?_
  refine c_int ?_
  refine c_newa (t := 0) (z := 174) (by decide) (by decide) (mOut_lt (ltL [o] rfl (List.forall_mem_cons.mpr ⟨by omega, (fun _ h => absurd h List.not_mem_nil)⟩)) (ltS [o] rfl (List.forall_mem_cons.mpr ⟨by omega, (fun _ h => absurd h List.not_mem_nil)⟩))) O_34 ?_
  rw [show ((174 : Int32)).toNatClampNeg = 174 by decide]
  obtain ⟨σ35, e35⟩ : ∃ x, x = mNew σ34 20 174 174 := ⟨_, rfl⟩
  rw [← e35, show σ34.2.1.length = o + 18 by omega]
  have N_35 : σ35.2.1.length = o + 19 := by rw [e35, len_new]; omega
  have T_35 : σ35.1 = σ.1 + 2744 := by rw [e35]; show σ34.1 + 174 = _; omega
  have O_35 : rOK σ35 := by rw [e35]; exact rOK_new O_34
  have X_35 : Ex σ σ35 o := by rw [e35]; exact X_34.new (by omega)
  have K_0_35 : σ35.2.1[o]? = some (10, 0) := by rw [e35]; exact k_new K_0_34
  have K_1_35 : σ35.2.1[o + 1]? = some (23, 43) := by rw [e35]; exact k_new K_1_34
  have K_2_35 : σ35.2.1[o + 2]? = some (20, 700) := by rw [e35]; exact k_new K_2_34
  have K_3_35 : σ35.2.1[o + 3]? = some (20, 100) := by rw [e35]; exact k_new K_3_34
  have K_4_35 : σ35.2.1[o + 4]? = some (20, 100) := by rw [e35]; exact k_new K_4_34
  have K_5_35 : σ35.2.1[o + 5]? = some (20, 101) := by rw [e35]; exact k_new K_5_34
  have K_6_35 : σ35.2.1[o + 6]? = some (20, 192) := by rw [e35]; exact k_new K_6_34
  have K_7_35 : σ35.2.1[o + 7]? = some (20, 48) := by rw [e35]; exact k_new K_7_34
  have K_8_35 : σ35.2.1[o + 8]? = some (20, 8) := by rw [e35]; exact k_new K_8_34
  have K_9_35 : σ35.2.1[o + 9]? = some (20, 100) := by rw [e35]; exact k_new K_9_34
  have K_10_35 : σ35.2.1[o + 10]? = some (20, 100) := by rw [e35]; exact k_new K_10_34
  have K_11_35 : σ35.2.1[o + 11]? = some (20, 101) := by rw [e35]; exact k_new K_11_34
  have K_12_35 : σ35.2.1[o + 12]? = some (20, 8) := by rw [e35]; exact k_new K_12_34
  have K_13_35 : σ35.2.1[o + 13]? = some (23, 101) := by rw [e35]; exact k_new K_13_34
  have K_14_35 : σ35.2.1[o + 14]? = some (23, 112) := by rw [e35]; exact k_new K_14_34
  have K_15_35 : σ35.2.1[o + 15]? = some (20, 112) := by rw [e35]; exact k_new K_15_34
  have K_16_35 : σ35.2.1[o + 16]? = some (20, 112) := by rw [e35]; exact k_new K_16_34
  have K_17_35 : σ35.2.1[o + 17]? = some (20, 532) := by rw [e35]; exact k_new K_17_34
  have G_0_2_35 : σ35.2.2.1 o 2 = some (o + 1) := by rw [e35]; exact g_new (by omega) G_0_2_34
  have G_0_3_35 : σ35.2.2.1 o 3 = some (o + 2) := by rw [e35]; exact g_new (by omega) G_0_3_34
  have G_0_13_35 : σ35.2.2.1 o 13 = some (o + 3) := by rw [e35]; exact g_new (by omega) G_0_13_34
  have G_0_14_35 : σ35.2.2.1 o 14 = some (o + 4) := by rw [e35]; exact g_new (by omega) G_0_14_34
  have G_0_15_35 : σ35.2.2.1 o 15 = some (o + 5) := by rw [e35]; exact g_new (by omega) G_0_15_34
  have G_0_16_35 : σ35.2.2.1 o 16 = some (o + 6) := by rw [e35]; exact g_new (by omega) G_0_16_34
  have G_0_17_35 : σ35.2.2.1 o 17 = some (o + 7) := by rw [e35]; exact g_new (by omega) G_0_17_34
  have G_0_18_35 : σ35.2.2.1 o 18 = some (o + 8) := by rw [e35]; exact g_new (by omega) G_0_18_34
  have G_0_19_35 : σ35.2.2.1 o 19 = some (o + 9) := by rw [e35]; exact g_new (by omega) G_0_19_34
  have G_0_20_35 : σ35.2.2.1 o 20 = some (o + 10) := by rw [e35]; exact g_new (by omega) G_0_20_34
  have G_0_21_35 : σ35.2.2.1 o 21 = some (o + 11) := by rw [e35]; exact g_new (by omega) G_0_21_34
  have G_0_22_35 : σ35.2.2.1 o 22 = some (o + 12) := by rw [e35]; exact g_new (by omega) G_0_22_34
  have G_0_23_35 : σ35.2.2.1 o 23 = some (o + 13) := by rw [e35]; exact g_new (by omega) G_0_23_34
  have G_0_24_35 : σ35.2.2.1 o 24 = some (o + 14) := by rw [e35]; exact g_new (by omega) G_0_24_34
  have G_0_25_35 : σ35.2.2.1 o 25 = some (o + 15) := by rw [e35]; exact g_new (by omega) G_0_25_34
  have G_0_26_35 : σ35.2.2.1 o 26 = some (o + 16) := by rw [e35]; exact g_new (by omega) G_0_26_34
  have G_0_38_35 : σ35.2.2.1 o 38 = some (o + 17) := by rw [e35]; exact g_new (by omega) G_0_38_34
  have R_0_35 : σ35.2.2.2.1 o = fun _ => 0 := by rw [e35]; exact (mup_ne (by omega)).trans R_0_34
  have R_1_35 : σ35.2.2.2.1 (o + 1) = fun _ => 0 := by rw [e35]; exact (mup_ne (by omega)).trans R_1_34
  have R_2_35 : σ35.2.2.2.1 (o + 2) = fun _ => 0 := by rw [e35]; exact (mup_ne (by omega)).trans R_2_34
  have R_3_35 : σ35.2.2.2.1 (o + 3) = fun _ => 0 := by rw [e35]; exact (mup_ne (by omega)).trans R_3_34
  have R_4_35 : σ35.2.2.2.1 (o + 4) = fun _ => 0 := by rw [e35]; exact (mup_ne (by omega)).trans R_4_34
  have R_5_35 : σ35.2.2.2.1 (o + 5) = fun _ => 0 := by rw [e35]; exact (mup_ne (by omega)).trans R_5_34
  have R_6_35 : σ35.2.2.2.1 (o + 6) = fun _ => 0 := by rw [e35]; exact (mup_ne (by omega)).trans R_6_34
  have R_7_35 : σ35.2.2.2.1 (o + 7) = fun _ => 0 := by rw [e35]; exact (mup_ne (by omega)).trans R_7_34
  have R_8_35 : σ35.2.2.2.1 (o + 8) = fun _ => 0 := by rw [e35]; exact (mup_ne (by omega)).trans R_8_34
  have R_9_35 : σ35.2.2.2.1 (o + 9) = fun _ => 0 := by rw [e35]; exact (mup_ne (by omega)).trans R_9_34
  have R_10_35 : σ35.2.2.2.1 (o + 10) = fun _ => 0 := by rw [e35]; exact (mup_ne (by omega)).trans R_10_34
  have R_11_35 : σ35.2.2.2.1 (o + 11) = fun _ => 0 := by rw [e35]; exact (mup_ne (by omega)).trans R_11_34
  have R_12_35 : σ35.2.2.2.1 (o + 12) = fun _ => 0 := by rw [e35]; exact (mup_ne (by omega)).trans R_12_34
  have R_13_35 : σ35.2.2.2.1 (o + 13) = fun _ => 0 := by rw [e35]; exact (mup_ne (by omega)).trans R_13_34
  have R_14_35 : σ35.2.2.2.1 (o + 14) = fun _ => 0 := by rw [e35]; exact (mup_ne (by omega)).trans R_14_34
  have R_15_35 : σ35.2.2.2.1 (o + 15) = fun _ => 0 := by rw [e35]; exact (mup_ne (by omega)).trans R_15_34
  have R_16_35 : σ35.2.2.2.1 (o + 16) = fun _ => 0 := by rw [e35]; exact (mup_ne (by omega)).trans R_16_34
  have R_17_35 : σ35.2.2.2.1 (o + 17) = fun _ => 0 := by rw [e35]; exact (mup_ne (by omega)).trans R_17_34
  have K_18_35 : σ35.2.1[o + 18]? = some (20, 174) := by rw [e35, ← show σ34.2.1.length = o + 18 by omega]; exact k_newS
  have R_18_35 : σ35.2.2.2.1 (o + 18) = fun _ => 0 := by rw [e35, ← show σ34.2.1.length = o + 18 by omega]; exact mup_eq
  clear K_0_34 K_1_34 K_2_34 K_3_34 K_4_34 K_5_34 K_6_34 K_7_34 K_8_34 K_9_34 K_10_34 K_11_34 K_12_34 K_13_34 K_14_34 K_15_34 K_16_34 K_17_34 G_0_2_34 G_0_3_34 G_0_13_34 G_0_14_34 G_0_15_34 G_0_16_34 G_0_17_34 G_0_18_34 G_0_19_34 G_0_20_34 G_0_21_34 G_0_22_34 G_0_23_34 G_0_24_34 G_0_25_34 G_0_26_34 G_0_38_34 R_0_34 R_1_34 R_2_34 R_3_34 R_4_34 R_5_34 R_6_34 R_7_34 R_8_34 R_9_34 R_10_34 R_11_34 R_12_34 R_13_34 R_14_34 R_15_34 R_16_34 R_17_34 N_34 T_34 O_34 X_34 e35 σ34
  show RC _ _ _ [some (.ref o), none, none, none] [.ref (o + 18), .ref o] σ35 _
  refine c_putr K_0_35 ?_
  obtain ⟨σ36, e36⟩ : ∃ x, x = mPr σ35 o 39 (some (o + 18)) := ⟨_, rfl⟩
  rw [← e36]
  have N_36 : σ36.2.1.length = o + 19 := by rw [e36]; exact N_35
  have T_36 : σ36.1 = σ.1 + 2744 := by rw [e36]; exact T_35
  have O_36 : rOK σ36 := by rw [e36]; exact rOK_pr O_35 (by omega)
  have X_36 : Ex σ σ36 o := by rw [e36]; exact X_35.pr (by omega)
  have K_0_36 : σ36.2.1[o]? = some (10, 0) := by rw [e36]; exact K_0_35
  have K_1_36 : σ36.2.1[o + 1]? = some (23, 43) := by rw [e36]; exact K_1_35
  have K_2_36 : σ36.2.1[o + 2]? = some (20, 700) := by rw [e36]; exact K_2_35
  have K_3_36 : σ36.2.1[o + 3]? = some (20, 100) := by rw [e36]; exact K_3_35
  have K_4_36 : σ36.2.1[o + 4]? = some (20, 100) := by rw [e36]; exact K_4_35
  have K_5_36 : σ36.2.1[o + 5]? = some (20, 101) := by rw [e36]; exact K_5_35
  have K_6_36 : σ36.2.1[o + 6]? = some (20, 192) := by rw [e36]; exact K_6_35
  have K_7_36 : σ36.2.1[o + 7]? = some (20, 48) := by rw [e36]; exact K_7_35
  have K_8_36 : σ36.2.1[o + 8]? = some (20, 8) := by rw [e36]; exact K_8_35
  have K_9_36 : σ36.2.1[o + 9]? = some (20, 100) := by rw [e36]; exact K_9_35
  have K_10_36 : σ36.2.1[o + 10]? = some (20, 100) := by rw [e36]; exact K_10_35
  have K_11_36 : σ36.2.1[o + 11]? = some (20, 101) := by rw [e36]; exact K_11_35
  have K_12_36 : σ36.2.1[o + 12]? = some (20, 8) := by rw [e36]; exact K_12_35
  have K_13_36 : σ36.2.1[o + 13]? = some (23, 101) := by rw [e36]; exact K_13_35
  have K_14_36 : σ36.2.1[o + 14]? = some (23, 112) := by rw [e36]; exact K_14_35
  have K_15_36 : σ36.2.1[o + 15]? = some (20, 112) := by rw [e36]; exact K_15_35
  have K_16_36 : σ36.2.1[o + 16]? = some (20, 112) := by rw [e36]; exact K_16_35
  have K_17_36 : σ36.2.1[o + 17]? = some (20, 532) := by rw [e36]; exact K_17_35
  have K_18_36 : σ36.2.1[o + 18]? = some (20, 174) := by rw [e36]; exact K_18_35
  have G_0_2_36 : σ36.2.2.1 o 2 = some (o + 1) := by rw [e36]; exact g_prK (by decide) G_0_2_35
  have G_0_3_36 : σ36.2.2.1 o 3 = some (o + 2) := by rw [e36]; exact g_prK (by decide) G_0_3_35
  have G_0_13_36 : σ36.2.2.1 o 13 = some (o + 3) := by rw [e36]; exact g_prK (by decide) G_0_13_35
  have G_0_14_36 : σ36.2.2.1 o 14 = some (o + 4) := by rw [e36]; exact g_prK (by decide) G_0_14_35
  have G_0_15_36 : σ36.2.2.1 o 15 = some (o + 5) := by rw [e36]; exact g_prK (by decide) G_0_15_35
  have G_0_16_36 : σ36.2.2.1 o 16 = some (o + 6) := by rw [e36]; exact g_prK (by decide) G_0_16_35
  have G_0_17_36 : σ36.2.2.1 o 17 = some (o + 7) := by rw [e36]; exact g_prK (by decide) G_0_17_35
  have G_0_18_36 : σ36.2.2.1 o 18 = some (o + 8) := by rw [e36]; exact g_prK (by decide) G_0_18_35
  have G_0_19_36 : σ36.2.2.1 o 19 = some (o + 9) := by rw [e36]; exact g_prK (by decide) G_0_19_35
  have G_0_20_36 : σ36.2.2.1 o 20 = some (o + 10) := by rw [e36]; exact g_prK (by decide) G_0_20_35
  have G_0_21_36 : σ36.2.2.1 o 21 = some (o + 11) := by rw [e36]; exact g_prK (by decide) G_0_21_35
  have G_0_22_36 : σ36.2.2.1 o 22 = some (o + 12) := by rw [e36]; exact g_prK (by decide) G_0_22_35
  have G_0_23_36 : σ36.2.2.1 o 23 = some (o + 13) := by rw [e36]; exact g_prK (by decide) G_0_23_35
  have G_0_24_36 : σ36.2.2.1 o 24 = some (o + 14) := by rw [e36]; exact g_prK (by decide) G_0_24_35
  have G_0_25_36 : σ36.2.2.1 o 25 = some (o + 15) := by rw [e36]; exact g_prK (by decide) G_0_25_35
  have G_0_26_36 : σ36.2.2.1 o 26 = some (o + 16) := by rw [e36]; exact g_prK (by decide) G_0_26_35
  have G_0_38_36 : σ36.2.2.1 o 38 = some (o + 17) := by rw [e36]; exact g_prK (by decide) G_0_38_35
  have R_0_36 : σ36.2.2.2.1 o = fun _ => 0 := by rw [e36]; exact R_0_35
  have R_1_36 : σ36.2.2.2.1 (o + 1) = fun _ => 0 := by rw [e36]; exact R_1_35
  have R_2_36 : σ36.2.2.2.1 (o + 2) = fun _ => 0 := by rw [e36]; exact R_2_35
  have R_3_36 : σ36.2.2.2.1 (o + 3) = fun _ => 0 := by rw [e36]; exact R_3_35
  have R_4_36 : σ36.2.2.2.1 (o + 4) = fun _ => 0 := by rw [e36]; exact R_4_35
  have R_5_36 : σ36.2.2.2.1 (o + 5) = fun _ => 0 := by rw [e36]; exact R_5_35
  have R_6_36 : σ36.2.2.2.1 (o + 6) = fun _ => 0 := by rw [e36]; exact R_6_35
  have R_7_36 : σ36.2.2.2.1 (o + 7) = fun _ => 0 := by rw [e36]; exact R_7_35
  have R_8_36 : σ36.2.2.2.1 (o + 8) = fun _ => 0 := by rw [e36]; exact R_8_35
  have R_9_36 : σ36.2.2.2.1 (o + 9) = fun _ => 0 := by rw [e36]; exact R_9_35
  have R_10_36 : σ36.2.2.2.1 (o + 10) = fun _ => 0 := by rw [e36]; exact R_10_35
  have R_11_36 : σ36.2.2.2.1 (o + 11) = fun _ => 0 := by rw [e36]; exact R_11_35
  have R_12_36 : σ36.2.2.2.1 (o + 12) = fun _ => 0 := by rw [e36]; exact R_12_35
  have R_13_36 : σ36.2.2.2.1 (o + 13) = fun _ => 0 := by rw [e36]; exact R_13_35
  have R_14_36 : σ36.2.2.2.1 (o + 14) = fun _ => 0 := by rw [e36]; exact R_14_35
  have R_15_36 : σ36.2.2.2.1 (o + 15) = fun _ => 0 := by rw [e36]; exact R_15_35
  have R_16_36 : σ36.2.2.2.1 (o + 16) = fun _ => 0 := by rw [e36]; exact R_16_35
  have R_17_36 : σ36.2.2.2.1 (o + 17) = fun _ => 0 := by rw [e36]; exact R_17_35
  have R_18_36 : σ36.2.2.2.1 (o + 18) = fun _ => 0 := by rw [e36]; exact R_18_35
  have G_0_39_36 : σ36.2.2.1 o 39 = some (o + 18) := by rw [e36]; exact g_prS
  clear K_0_35 K_1_35 K_2_35 K_3_35 K_4_35 K_5_35 K_6_35 K_7_35 K_8_35 K_9_35 K_10_35 K_11_35 K_12_35 K_13_35 K_14_35 K_15_35 K_16_35 K_17_35 K_18_35 G_0_2_35 G_0_3_35 G_0_13_35 G_0_14_35 G_0_15_35 G_0_16_35 G_0_17_35 G_0_18_35 G_0_19_35 G_0_20_35 G_0_21_35 G_0_22_35 G_0_23_35 G_0_24_35 G_0_25_35 G_0_26_35 G_0_38_35 R_0_35 R_1_35 R_2_35 R_3_35 R_4_35 R_5_35 R_6_35 R_7_35 R_8_35 R_9_35 R_10_35 R_11_35 R_12_35 R_13_35 R_14_35 R_15_35 R_16_35 R_17_35 R_18_35 N_35 T_35 O_35 X_35 e36 σ35
  show RC _ _ _ [some (.ref o), none, none, none] [] σ36 _
  refine c_aload rfl ?_
  refine c_int ?_
  refine c_newa (t := 0) (z := 532) (by decide) (by decide) (mOut_lt (ltL [o] rfl (List.forall_mem_cons.mpr ⟨by omega, (fun _ h => absurd h List.not_mem_nil)⟩)) (ltS [o] rfl (List.forall_mem_cons.mpr ⟨by omega, (fun _ h => absurd h List.not_mem_nil)⟩))) O_36 ?_
  rw [show ((532 : Int32)).toNatClampNeg = 532 by decide]
  obtain ⟨σ37, e37⟩ : ∃ x, x = mNew σ36 20 532 532 := ⟨_, rfl⟩
  rw [← e37, show σ36.2.1.length = o + 19 by omega]
  have N_37 : σ37.2.1.length = o + 20 := by rw [e37, len_new]; omega
  have T_37 : σ37.1 = σ.1 + 3276 := by rw [e37]; show σ36.1 + 532 = _; omega
  have O_37 : rOK σ37 := by rw [e37]; exact rOK_new O_36
  have X_37 : Ex σ σ37 o := by rw [e37]; exact X_36.new (by omega)
  have K_0_37 : σ37.2.1[o]? = some (10, 0) := by rw [e37]; exact k_new K_0_36
  have K_1_37 : σ37.2.1[o + 1]? = some (23, 43) := by rw [e37]; exact k_new K_1_36
  have K_2_37 : σ37.2.1[o + 2]? = some (20, 700) := by rw [e37]; exact k_new K_2_36
  have K_3_37 : σ37.2.1[o + 3]? = some (20, 100) := by rw [e37]; exact k_new K_3_36
  have K_4_37 : σ37.2.1[o + 4]? = some (20, 100) := by rw [e37]; exact k_new K_4_36
  have K_5_37 : σ37.2.1[o + 5]? = some (20, 101) := by rw [e37]; exact k_new K_5_36
  have K_6_37 : σ37.2.1[o + 6]? = some (20, 192) := by rw [e37]; exact k_new K_6_36
  have K_7_37 : σ37.2.1[o + 7]? = some (20, 48) := by rw [e37]; exact k_new K_7_36
  have K_8_37 : σ37.2.1[o + 8]? = some (20, 8) := by rw [e37]; exact k_new K_8_36
  have K_9_37 : σ37.2.1[o + 9]? = some (20, 100) := by rw [e37]; exact k_new K_9_36
  have K_10_37 : σ37.2.1[o + 10]? = some (20, 100) := by rw [e37]; exact k_new K_10_36
  have K_11_37 : σ37.2.1[o + 11]? = some (20, 101) := by rw [e37]; exact k_new K_11_36
  have K_12_37 : σ37.2.1[o + 12]? = some (20, 8) := by rw [e37]; exact k_new K_12_36
  have K_13_37 : σ37.2.1[o + 13]? = some (23, 101) := by rw [e37]; exact k_new K_13_36
  have K_14_37 : σ37.2.1[o + 14]? = some (23, 112) := by rw [e37]; exact k_new K_14_36
  have K_15_37 : σ37.2.1[o + 15]? = some (20, 112) := by rw [e37]; exact k_new K_15_36
  have K_16_37 : σ37.2.1[o + 16]? = some (20, 112) := by rw [e37]; exact k_new K_16_36
  have K_17_37 : σ37.2.1[o + 17]? = some (20, 532) := by rw [e37]; exact k_new K_17_36
  have K_18_37 : σ37.2.1[o + 18]? = some (20, 174) := by rw [e37]; exact k_new K_18_36
  have G_0_2_37 : σ37.2.2.1 o 2 = some (o + 1) := by rw [e37]; exact g_new (by omega) G_0_2_36
  have G_0_3_37 : σ37.2.2.1 o 3 = some (o + 2) := by rw [e37]; exact g_new (by omega) G_0_3_36
  have G_0_13_37 : σ37.2.2.1 o 13 = some (o + 3) := by rw [e37]; exact g_new (by omega) G_0_13_36
  have G_0_14_37 : σ37.2.2.1 o 14 = some (o + 4) := by rw [e37]; exact g_new (by omega) G_0_14_36
  have G_0_15_37 : σ37.2.2.1 o 15 = some (o + 5) := by rw [e37]; exact g_new (by omega) G_0_15_36
  have G_0_16_37 : σ37.2.2.1 o 16 = some (o + 6) := by rw [e37]; exact g_new (by omega) G_0_16_36
  have G_0_17_37 : σ37.2.2.1 o 17 = some (o + 7) := by rw [e37]; exact g_new (by omega) G_0_17_36
  have G_0_18_37 : σ37.2.2.1 o 18 = some (o + 8) := by rw [e37]; exact g_new (by omega) G_0_18_36
  have G_0_19_37 : σ37.2.2.1 o 19 = some (o + 9) := by rw [e37]; exact g_new (by omega) G_0_19_36
  have G_0_20_37 : σ37.2.2.1 o 20 = some (o + 10) := by rw [e37]; exact g_new (by omega) G_0_20_36
  have G_0_21_37 : σ37.2.2.1 o 21 = some (o + 11) := by rw [e37]; exact g_new (by omega) G_0_21_36
  have G_0_22_37 : σ37.2.2.1 o 22 = some (o + 12) := by rw [e37]; exact g_new (by omega) G_0_22_36
  have G_0_23_37 : σ37.2.2.1 o 23 = some (o + 13) := by rw [e37]; exact g_new (by omega) G_0_23_36
  have G_0_24_37 : σ37.2.2.1 o 24 = some (o + 14) := by rw [e37]; exact g_new (by omega) G_0_24_36
  have G_0_25_37 : σ37.2.2.1 o 25 = some (o + 15) := by rw [e37]; exact g_new (by omega) G_0_25_36
  have G_0_26_37 : σ37.2.2.1 o 26 = some (o + 16) := by rw [e37]; exact g_new (by omega) G_0_26_36
  have G_0_38_37 : σ37.2.2.1 o 38 = some (o + 17) := by rw [e37]; exact g_new (by omega) G_0_38_36
  have G_0_39_37 : σ37.2.2.1 o 39 = some (o + 18) := by rw [e37]; exact g_new (by omega) G_0_39_36
  have R_0_37 : σ37.2.2.2.1 o = fun _ => 0 := by rw [e37]; exact (mup_ne (by omega)).trans R_0_36
  have R_1_37 : σ37.2.2.2.1 (o + 1) = fun _ => 0 := by rw [e37]; exact (mup_ne (by omega)).trans R_1_36
  have R_2_37 : σ37.2.2.2.1 (o + 2) = fun _ => 0 := by rw [e37]; exact (mup_ne (by omega)).trans R_2_36
  have R_3_37 : σ37.2.2.2.1 (o + 3) = fun _ => 0 := by rw [e37]; exact (mup_ne (by omega)).trans R_3_36
  have R_4_37 : σ37.2.2.2.1 (o + 4) = fun _ => 0 := by rw [e37]; exact (mup_ne (by omega)).trans R_4_36
  have R_5_37 : σ37.2.2.2.1 (o + 5) = fun _ => 0 := by rw [e37]; exact (mup_ne (by omega)).trans R_5_36
  have R_6_37 : σ37.2.2.2.1 (o + 6) = fun _ => 0 := by rw [e37]; exact (mup_ne (by omega)).trans R_6_36
  have R_7_37 : σ37.2.2.2.1 (o + 7) = fun _ => 0 := by rw [e37]; exact (mup_ne (by omega)).trans R_7_36
  have R_8_37 : σ37.2.2.2.1 (o + 8) = fun _ => 0 := by rw [e37]; exact (mup_ne (by omega)).trans R_8_36
  have R_9_37 : σ37.2.2.2.1 (o + 9) = fun _ => 0 := by rw [e37]; exact (mup_ne (by omega)).trans R_9_36
  have R_10_37 : σ37.2.2.2.1 (o + 10) = fun _ => 0 := by rw [e37]; exact (mup_ne (by omega)).trans R_10_36
  have R_11_37 : σ37.2.2.2.1 (o + 11) = fun _ => 0 := by rw [e37]; exact (mup_ne (by omega)).trans R_11_36
  have R_12_37 : σ37.2.2.2.1 (o + 12) = fun _ => 0 := by rw [e37]; exact (mup_ne (by omega)).trans R_12_36
  have R_13_37 : σ37.2.2.2.1 (o + 13) = fun _ => 0 := by rw [e37]; exact (mup_ne (by omega)).trans R_13_36
  have R_14_37 : σ37.2.2.2.1 (o + 14) = fun _ => 0 := by rw [e37]; exact (mup_ne (by omega)).trans R_14_36
  have R_15_37 : σ37.2.2.2.1 (o + 15) = fun _ => 0 := by rw [e37]; exact (mup_ne (by omega)).trans R_15_36
  have R_16_37 : σ37.2.2.2.1 (o + 16) = fun _ => 0 := by rw [e37]; exact (mup_ne (by omega)).trans R_16_36
  have R_17_37 : σ37.2.2.2.1 (o + 17) = fun _ => 0 := by rw [e37]; exact (mup_ne (by omega)).trans R_17_36
  have R_18_37 : σ37.2.2.2.1 (o + 18) = fun _ => 0 := by rw [e37]; exact (mup_ne (by omega)).trans R_18_36
  have K_19_37 : σ37.2.1[o + 19]? = some (20, 532) := by rw [e37, ← show σ36.2.1.length = o + 19 by omega]; exact k_newS
  have R_19_37 : σ37.2.2.2.1 (o + 19) = fun _ => 0 := by rw [e37, ← show σ36.2.1.length = o + 19 by omega]; exact mup_eq
  clear K_0_36 K_1_36 K_2_36 K_3_36 K_4_36 K_5_36 K_6_36 K_7_36 K_8_36 K_9_36 K_10_36 K_11_36 K_12_36 K_13_36 K_14_36 K_15_36 K_16_36 K_17_36 K_18_36 G_0_2_36 G_0_3_36 G_0_13_36 G_0_14_36 G_0_15_36 G_0_16_36 G_0_17_36 G_0_18_36 G_0_19_36 G_0_20_36 G_0_21_36 G_0_22_36 G_0_23_36 G_0_24_36 G_0_25_36 G_0_26_36 G_0_38_36 G_0_39_36 R_0_36 R_1_36 R_2_36 R_3_36 R_4_36 R_5_36 R_6_36 R_7_36 R_8_36 R_9_36 R_10_36 R_11_36 R_12_36 R_13_36 R_14_36 R_15_36 R_16_36 R_17_36 R_18_36 N_36 T_36 O_36 X_36 e37 σ36
  show RC _ _ _ [some (.ref o), none, none, none] [.ref (o + 19), .ref o] σ37 _
  refine c_putr K_0_37 ?_
  obtain ⟨σ38, e38⟩ : ∃ x, x = mPr σ37 o 40 (some (o + 19)) := ⟨_, rfl⟩
  rw [← e38]
  have N_38 : σ38.2.1.length = o + 20 := by rw [e38]; exact N_37
  have T_38 : σ38.1 = σ.1 + 3276 := by rw [e38]; exact T_37
  have O_38 : rOK σ38 := by rw [e38]; exact rOK_pr O_37 (by omega)
  have X_38 : Ex σ σ38 o := by rw [e38]; exact X_37.pr (by omega)
  have K_0_38 : σ38.2.1[o]? = some (10, 0) := by rw [e38]; exact K_0_37
  have K_1_38 : σ38.2.1[o + 1]? = some (23, 43) := by rw [e38]; exact K_1_37
  have K_2_38 : σ38.2.1[o + 2]? = some (20, 700) := by rw [e38]; exact K_2_37
  have K_3_38 : σ38.2.1[o + 3]? = some (20, 100) := by rw [e38]; exact K_3_37
  have K_4_38 : σ38.2.1[o + 4]? = some (20, 100) := by rw [e38]; exact K_4_37
  have K_5_38 : σ38.2.1[o + 5]? = some (20, 101) := by rw [e38]; exact K_5_37
  have K_6_38 : σ38.2.1[o + 6]? = some (20, 192) := by rw [e38]; exact K_6_37
  have K_7_38 : σ38.2.1[o + 7]? = some (20, 48) := by rw [e38]; exact K_7_37
  have K_8_38 : σ38.2.1[o + 8]? = some (20, 8) := by rw [e38]; exact K_8_37
  have K_9_38 : σ38.2.1[o + 9]? = some (20, 100) := by rw [e38]; exact K_9_37
  have K_10_38 : σ38.2.1[o + 10]? = some (20, 100) := by rw [e38]; exact K_10_37
  have K_11_38 : σ38.2.1[o + 11]? = some (20, 101) := by rw [e38]; exact K_11_37
  have K_12_38 : σ38.2.1[o + 12]? = some (20, 8) := by rw [e38]; exact K_12_37
  have K_13_38 : σ38.2.1[o + 13]? = some (23, 101) := by rw [e38]; exact K_13_37
  have K_14_38 : σ38.2.1[o + 14]? = some (23, 112) := by rw [e38]; exact K_14_37
  have K_15_38 : σ38.2.1[o + 15]? = some (20, 112) := by rw [e38]; exact K_15_37
  have K_16_38 : σ38.2.1[o + 16]? = some (20, 112) := by rw [e38]; exact K_16_37
  have K_17_38 : σ38.2.1[o + 17]? = some (20, 532) := by rw [e38]; exact K_17_37
  have K_18_38 : σ38.2.1[o + 18]? = some (20, 174) := by rw [e38]; exact K_18_37
  have K_19_38 : σ38.2.1[o + 19]? = some (20, 532) := by rw [e38]; exact K_19_37
  have G_0_2_38 : σ38.2.2.1 o 2 = some (o + 1) := by rw [e38]; exact g_prK (by decide) G_0_2_37
  have G_0_3_38 : σ38.2.2.1 o 3 = some (o + 2) := by rw [e38]; exact g_prK (by decide) G_0_3_37
  have G_0_13_38 : σ38.2.2.1 o 13 = some (o + 3) := by rw [e38]; exact g_prK (by decide) G_0_13_37
  have G_0_14_38 : σ38.2.2.1 o 14 = some (o + 4) := by rw [e38]; exact g_prK (by decide) G_0_14_37
  have G_0_15_38 : σ38.2.2.1 o 15 = some (o + 5) := by rw [e38]; exact g_prK (by decide) G_0_15_37
  have G_0_16_38 : σ38.2.2.1 o 16 = some (o + 6) := by rw [e38]; exact g_prK (by decide) G_0_16_37
  have G_0_17_38 : σ38.2.2.1 o 17 = some (o + 7) := by rw [e38]; exact g_prK (by decide) G_0_17_37
  have G_0_18_38 : σ38.2.2.1 o 18 = some (o + 8) := by rw [e38]; exact g_prK (by decide) G_0_18_37
  have G_0_19_38 : σ38.2.2.1 o 19 = some (o + 9) := by rw [e38]; exact g_prK (by decide) G_0_19_37
  have G_0_20_38 : σ38.2.2.1 o 20 = some (o + 10) := by rw [e38]; exact g_prK (by decide) G_0_20_37
  have G_0_21_38 : σ38.2.2.1 o 21 = some (o + 11) := by rw [e38]; exact g_prK (by decide) G_0_21_37
  have G_0_22_38 : σ38.2.2.1 o 22 = some (o + 12) := by rw [e38]; exact g_prK (by decide) G_0_22_37
  have G_0_23_38 : σ38.2.2.1 o 23 = some (o + 13) := by rw [e38]; exact g_prK (by decide) G_0_23_37
  have G_0_24_38 : σ38.2.2.1 o 24 = some (o + 14) := by rw [e38]; exact g_prK (by decide) G_0_24_37
  have G_0_25_38 : σ38.2.2.1 o 25 = some (o + 15) := by rw [e38]; exact g_prK (by decide) G_0_25_37
  have G_0_26_38 : σ38.2.2.1 o 26 = some (o + 16) := by rw [e38]; exact g_prK (by decide) G_0_26_37
  have G_0_38_38 : σ38.2.2.1 o 38 = some (o + 17) := by rw [e38]; exact g_prK (by decide) G_0_38_37
  have G_0_39_38 : σ38.2.2.1 o 39 = some (o + 18) := by rw [e38]; exact g_prK (by decide) G_0_39_37
  have R_0_38 : σ38.2.2.2.1 o = fun _ => 0 := by rw [e38]; exact R_0_37
  have R_1_38 : σ38.2.2.2.1 (o + 1) = fun _ => 0 := by rw [e38]; exact R_1_37
  have R_2_38 : σ38.2.2.2.1 (o + 2) = fun _ => 0 := by rw [e38]; exact R_2_37
  have R_3_38 : σ38.2.2.2.1 (o + 3) = fun _ => 0 := by rw [e38]; exact R_3_37
  have R_4_38 : σ38.2.2.2.1 (o + 4) = fun _ => 0 := by rw [e38]; exact R_4_37
  have R_5_38 : σ38.2.2.2.1 (o + 5) = fun _ => 0 := by rw [e38]; exact R_5_37
  have R_6_38 : σ38.2.2.2.1 (o + 6) = fun _ => 0 := by rw [e38]; exact R_6_37
  have R_7_38 : σ38.2.2.2.1 (o + 7) = fun _ => 0 := by rw [e38]; exact R_7_37
  have R_8_38 : σ38.2.2.2.1 (o + 8) = fun _ => 0 := by rw [e38]; exact R_8_37
  have R_9_38 : σ38.2.2.2.1 (o + 9) = fun _ => 0 := by rw [e38]; exact R_9_37
  have R_10_38 : σ38.2.2.2.1 (o + 10) = fun _ => 0 := by rw [e38]; exact R_10_37
  have R_11_38 : σ38.2.2.2.1 (o + 11) = fun _ => 0 := by rw [e38]; exact R_11_37
  have R_12_38 : σ38.2.2.2.1 (o + 12) = fun _ => 0 := by rw [e38]; exact R_12_37
  have R_13_38 : σ38.2.2.2.1 (o + 13) = fun _ => 0 := by rw [e38]; exact R_13_37
  have R_14_38 : σ38.2.2.2.1 (o + 14) = fun _ => 0 := by rw [e38]; exact R_14_37
  have R_15_38 : σ38.2.2.2.1 (o + 15) = fun _ => 0 := by rw [e38]; exact R_15_37
  have R_16_38 : σ38.2.2.2.1 (o + 16) = fun _ => 0 := by rw [e38]; exact R_16_37
  have R_17_38 : σ38.2.2.2.1 (o + 17) = fun _ => 0 := by rw [e38]; exact R_17_37
  have R_18_38 : σ38.2.2.2.1 (o + 18) = fun _ => 0 := by rw [e38]; exact R_18_37
  have R_19_38 : σ38.2.2.2.1 (o + 19) = fun _ => 0 := by rw [e38]; exact R_19_37
  have G_0_40_38 : σ38.2.2.1 o 40 = some (o + 19) := by rw [e38]; exact g_prS
  clear K_0_37 K_1_37 K_2_37 K_3_37 K_4_37 K_5_37 K_6_37 K_7_37 K_8_37 K_9_37 K_10_37 K_11_37 K_12_37 K_13_37 K_14_37 K_15_37 K_16_37 K_17_37 K_18_37 K_19_37 G_0_2_37 G_0_3_37 G_0_13_37 G_0_14_37 G_0_15_37 G_0_16_37 G_0_17_37 G_0_18_37 G_0_19_37 G_0_20_37 G_0_21_37 G_0_22_37 G_0_23_37 G_0_24_37 G_0_25_37 G_0_26_37 G_0_38_37 G_0_39_37 R_0_37 R_1_37 R_2_37 R_3_37 R_4_37 R_5_37 R_6_37 R_7_37 R_8_37 R_9_37 R_10_37 R_11_37 R_12_37 R_13_37 R_14_37 R_15_37 R_16_37 R_17_37 R_18_37 R_19_37 N_37 T_37 O_37 X_37 e38 σ37
  show RC _ _ _ [some (.ref o), none, none, none] [] σ38 _
  refine c_aload rfl ?_
  refine c_int ?_
  refine c_newa (t := 0) (z := 4256) (by decide) (by decide) (mOut_lt (ltL [o] rfl (List.forall_mem_cons.mpr ⟨by omega, (fun _ h => absurd h List.not_mem_nil)⟩)) (ltS [o] rfl (List.forall_mem_cons.mpr ⟨by omega, (fun _ h => absurd h List.not_mem_nil)⟩))) O_38 ?_
  rw [show ((4256 : Int32)).toNatClampNeg = 4256 by decide]
  obtain ⟨σ39, e39⟩ : ∃ x, x = mNew σ38 20 4256 4256 := ⟨_, rfl⟩
  rw [← e39, show σ38.2.1.length = o + 20 by omega]
  have N_39 : σ39.2.1.length = o + 21 := by rw [e39, len_new]; omega
  have T_39 : σ39.1 = σ.1 + 7532 := by rw [e39]; show σ38.1 + 4256 = _; omega
  have O_39 : rOK σ39 := by rw [e39]; exact rOK_new O_38
  have X_39 : Ex σ σ39 o := by rw [e39]; exact X_38.new (by omega)
  have K_0_39 : σ39.2.1[o]? = some (10, 0) := by rw [e39]; exact k_new K_0_38
  have K_1_39 : σ39.2.1[o + 1]? = some (23, 43) := by rw [e39]; exact k_new K_1_38
  have K_2_39 : σ39.2.1[o + 2]? = some (20, 700) := by rw [e39]; exact k_new K_2_38
  have K_3_39 : σ39.2.1[o + 3]? = some (20, 100) := by rw [e39]; exact k_new K_3_38
  have K_4_39 : σ39.2.1[o + 4]? = some (20, 100) := by rw [e39]; exact k_new K_4_38
  have K_5_39 : σ39.2.1[o + 5]? = some (20, 101) := by rw [e39]; exact k_new K_5_38
  have K_6_39 : σ39.2.1[o + 6]? = some (20, 192) := by rw [e39]; exact k_new K_6_38
  have K_7_39 : σ39.2.1[o + 7]? = some (20, 48) := by rw [e39]; exact k_new K_7_38
  have K_8_39 : σ39.2.1[o + 8]? = some (20, 8) := by rw [e39]; exact k_new K_8_38
  have K_9_39 : σ39.2.1[o + 9]? = some (20, 100) := by rw [e39]; exact k_new K_9_38
  have K_10_39 : σ39.2.1[o + 10]? = some (20, 100) := by rw [e39]; exact k_new K_10_38
  have K_11_39 : σ39.2.1[o + 11]? = some (20, 101) := by rw [e39]; exact k_new K_11_38
  have K_12_39 : σ39.2.1[o + 12]? = some (20, 8) := by rw [e39]; exact k_new K_12_38
  have K_13_39 : σ39.2.1[o + 13]? = some (23, 101) := by rw [e39]; exact k_new K_13_38
  have K_14_39 : σ39.2.1[o + 14]? = some (23, 112) := by rw [e39]; exact k_new K_14_38
  have K_15_39 : σ39.2.1[o + 15]? = some (20, 112) := by rw [e39]; exact k_new K_15_38
  have K_16_39 : σ39.2.1[o + 16]? = some (20, 112) := by rw [e39]; exact k_new K_16_38
  have K_17_39 : σ39.2.1[o + 17]? = some (20, 532) := by rw [e39]; exact k_new K_17_38
  have K_18_39 : σ39.2.1[o + 18]? = some (20, 174) := by rw [e39]; exact k_new K_18_38
  have K_19_39 : σ39.2.1[o + 19]? = some (20, 532) := by rw [e39]; exact k_new K_19_38
  have G_0_2_39 : σ39.2.2.1 o 2 = some (o + 1) := by rw [e39]; exact g_new (by omega) G_0_2_38
  have G_0_3_39 : σ39.2.2.1 o 3 = some (o + 2) := by rw [e39]; exact g_new (by omega) G_0_3_38
  have G_0_13_39 : σ39.2.2.1 o 13 = some (o + 3) := by rw [e39]; exact g_new (by omega) G_0_13_38
  have G_0_14_39 : σ39.2.2.1 o 14 = some (o + 4) := by rw [e39]; exact g_new (by omega) G_0_14_38
  have G_0_15_39 : σ39.2.2.1 o 15 = some (o + 5) := by rw [e39]; exact g_new (by omega) G_0_15_38
  have G_0_16_39 : σ39.2.2.1 o 16 = some (o + 6) := by rw [e39]; exact g_new (by omega) G_0_16_38
  have G_0_17_39 : σ39.2.2.1 o 17 = some (o + 7) := by rw [e39]; exact g_new (by omega) G_0_17_38
  have G_0_18_39 : σ39.2.2.1 o 18 = some (o + 8) := by rw [e39]; exact g_new (by omega) G_0_18_38
  have G_0_19_39 : σ39.2.2.1 o 19 = some (o + 9) := by rw [e39]; exact g_new (by omega) G_0_19_38
  have G_0_20_39 : σ39.2.2.1 o 20 = some (o + 10) := by rw [e39]; exact g_new (by omega) G_0_20_38
  have G_0_21_39 : σ39.2.2.1 o 21 = some (o + 11) := by rw [e39]; exact g_new (by omega) G_0_21_38
  have G_0_22_39 : σ39.2.2.1 o 22 = some (o + 12) := by rw [e39]; exact g_new (by omega) G_0_22_38
  have G_0_23_39 : σ39.2.2.1 o 23 = some (o + 13) := by rw [e39]; exact g_new (by omega) G_0_23_38
  have G_0_24_39 : σ39.2.2.1 o 24 = some (o + 14) := by rw [e39]; exact g_new (by omega) G_0_24_38
  have G_0_25_39 : σ39.2.2.1 o 25 = some (o + 15) := by rw [e39]; exact g_new (by omega) G_0_25_38
  have G_0_26_39 : σ39.2.2.1 o 26 = some (o + 16) := by rw [e39]; exact g_new (by omega) G_0_26_38
  have G_0_38_39 : σ39.2.2.1 o 38 = some (o + 17) := by rw [e39]; exact g_new (by omega) G_0_38_38
  have G_0_39_39 : σ39.2.2.1 o 39 = some (o + 18) := by rw [e39]; exact g_new (by omega) G_0_39_38
  have G_0_40_39 : σ39.2.2.1 o 40 = some (o + 19) := by rw [e39]; exact g_new (by omega) G_0_40_38
  have R_0_39 : σ39.2.2.2.1 o = fun _ => 0 := by rw [e39]; exact (mup_ne (by omega)).trans R_0_38
  have R_1_39 : σ39.2.2.2.1 (o + 1) = fun _ => 0 := by rw [e39]; exact (mup_ne (by omega)).trans R_1_38
  have R_2_39 : σ39.2.2.2.1 (o + 2) = fun _ => 0 := by rw [e39]; exact (mup_ne (by omega)).trans R_2_38
  have R_3_39 : σ39.2.2.2.1 (o + 3) = fun _ => 0 := by rw [e39]; exact (mup_ne (by omega)).trans R_3_38
  have R_4_39 : σ39.2.2.2.1 (o + 4) = fun _ => 0 := by rw [e39]; exact (mup_ne (by omega)).trans R_4_38
  have R_5_39 : σ39.2.2.2.1 (o + 5) = fun _ => 0 := by rw [e39]; exact (mup_ne (by omega)).trans R_5_38
  have R_6_39 : σ39.2.2.2.1 (o + 6) = fun _ => 0 := by rw [e39]; exact (mup_ne (by omega)).trans R_6_38
  have R_7_39 : σ39.2.2.2.1 (o + 7) = fun _ => 0 := by rw [e39]; exact (mup_ne (by omega)).trans R_7_38
  have R_8_39 : σ39.2.2.2.1 (o + 8) = fun _ => 0 := by rw [e39]; exact (mup_ne (by omega)).trans R_8_38
  have R_9_39 : σ39.2.2.2.1 (o + 9) = fun _ => 0 := by rw [e39]; exact (mup_ne (by omega)).trans R_9_38
  have R_10_39 : σ39.2.2.2.1 (o + 10) = fun _ => 0 := by rw [e39]; exact (mup_ne (by omega)).trans R_10_38
  have R_11_39 : σ39.2.2.2.1 (o + 11) = fun _ => 0 := by rw [e39]; exact (mup_ne (by omega)).trans R_11_38
  have R_12_39 : σ39.2.2.2.1 (o + 12) = fun _ => 0 := by rw [e39]; exact (mup_ne (by omega)).trans R_12_38
  have R_13_39 : σ39.2.2.2.1 (o + 13) = fun _ => 0 := by rw [e39]; exact (mup_ne (by omega)).trans R_13_38
  have R_14_39 : σ39.2.2.2.1 (o + 14) = fun _ => 0 := by rw [e39]; exact (mup_ne (by omega)).trans R_14_38
  have R_15_39 : σ39.2.2.2.1 (o + 15) = fun _ => 0 := by rw [e39]; exact (mup_ne (by omega)).trans R_15_38
  have R_16_39 : σ39.2.2.2.1 (o + 16) = fun _ => 0 := by rw [e39]; exact (mup_ne (by omega)).trans R_16_38
  have R_17_39 : σ39.2.2.2.1 (o + 17) = fun _ => 0 := by rw [e39]; exact (mup_ne (by omega)).trans R_17_38
  have R_18_39 : σ39.2.2.2.1 (o + 18) = fun _ => 0 := by rw [e39]; exact (mup_ne (by omega)).trans R_18_38
  have R_19_39 : σ39.2.2.2.1 (o + 19) = fun _ => 0 := by rw [e39]; exact (mup_ne (by omega)).trans R_19_38
  have K_20_39 : σ39.2.1[o + 20]? = some (20, 4256) := by rw [e39, ← show σ38.2.1.length = o + 20 by omega]; exact k_newS
  have R_20_39 : σ39.2.2.2.1 (o + 20) = fun _ => 0 := by rw [e39, ← show σ38.2.1.length = o + 20 by omega]; exact mup_eq
  clear K_0_38 K_1_38 K_2_38 K_3_38 K_4_38 K_5_38 K_6_38 K_7_38 K_8_38 K_9_38 K_10_38 K_11_38 K_12_38 K_13_38 K_14_38 K_15_38 K_16_38 K_17_38 K_18_38 K_19_38 G_0_2_38 G_0_3_38 G_0_13_38 G_0_14_38 G_0_15_38 G_0_16_38 G_0_17_38 G_0_18_38 G_0_19_38 G_0_20_38 G_0_21_38 G_0_22_38 G_0_23_38 G_0_24_38 G_0_25_38 G_0_26_38 G_0_38_38 G_0_39_38 G_0_40_38 R_0_38 R_1_38 R_2_38 R_3_38 R_4_38 R_5_38 R_6_38 R_7_38 R_8_38 R_9_38 R_10_38 R_11_38 R_12_38 R_13_38 R_14_38 R_15_38 R_16_38 R_17_38 R_18_38 R_19_38 N_38 T_38 O_38 X_38 e39 σ38
  show RC _ _ _ [some (.ref o), none, none, none] [.ref (o + 20), .ref o] σ39 _
  refine c_putr K_0_39 ?_
  obtain ⟨σ40, e40⟩ : ∃ x, x = mPr σ39 o 41 (some (o + 20)) := ⟨_, rfl⟩
  rw [← e40]
  have N_40 : σ40.2.1.length = o + 21 := by rw [e40]; exact N_39
  have T_40 : σ40.1 = σ.1 + 7532 := by rw [e40]; exact T_39
  have O_40 : rOK σ40 := by rw [e40]; exact rOK_pr O_39 (by omega)
  have X_40 : Ex σ σ40 o := by rw [e40]; exact X_39.pr (by omega)
  have K_0_40 : σ40.2.1[o]? = some (10, 0) := by rw [e40]; exact K_0_39
  have K_1_40 : σ40.2.1[o + 1]? = some (23, 43) := by rw [e40]; exact K_1_39
  have K_2_40 : σ40.2.1[o + 2]? = some (20, 700) := by rw [e40]; exact K_2_39
  have K_3_40 : σ40.2.1[o + 3]? = some (20, 100) := by rw [e40]; exact K_3_39
  have K_4_40 : σ40.2.1[o + 4]? = some (20, 100) := by rw [e40]; exact K_4_39
  have K_5_40 : σ40.2.1[o + 5]? = some (20, 101) := by rw [e40]; exact K_5_39
  have K_6_40 : σ40.2.1[o + 6]? = some (20, 192) := by rw [e40]; exact K_6_39
  have K_7_40 : σ40.2.1[o + 7]? = some (20, 48) := by rw [e40]; exact K_7_39
  have K_8_40 : σ40.2.1[o + 8]? = some (20, 8) := by rw [e40]; exact K_8_39
  have K_9_40 : σ40.2.1[o + 9]? = some (20, 100) := by rw [e40]; exact K_9_39
  have K_10_40 : σ40.2.1[o + 10]? = some (20, 100) := by rw [e40]; exact K_10_39
  have K_11_40 : σ40.2.1[o + 11]? = some (20, 101) := by rw [e40]; exact K_11_39
  have K_12_40 : σ40.2.1[o + 12]? = some (20, 8) := by rw [e40]; exact K_12_39
  have K_13_40 : σ40.2.1[o + 13]? = some (23, 101) := by rw [e40]; exact K_13_39
  have K_14_40 : σ40.2.1[o + 14]? = some (23, 112) := by rw [e40]; exact K_14_39
  have K_15_40 : σ40.2.1[o + 15]? = some (20, 112) := by rw [e40]; exact K_15_39
  have K_16_40 : σ40.2.1[o + 16]? = some (20, 112) := by rw [e40]; exact K_16_39
  have K_17_40 : σ40.2.1[o + 17]? = some (20, 532) := by rw [e40]; exact K_17_39
  have K_18_40 : σ40.2.1[o + 18]? = some (20, 174) := by rw [e40]; exact K_18_39
  have K_19_40 : σ40.2.1[o + 19]? = some (20, 532) := by rw [e40]; exact K_19_39
  have K_20_40 : σ40.2.1[o + 20]? = some (20, 4256) := by rw [e40]; exact K_20_39
  have G_0_2_40 : σ40.2.2.1 o 2 = some (o + 1) := by rw [e40]; exact g_prK (by decide) G_0_2_39
  have G_0_3_40 : σ40.2.2.1 o 3 = some (o + 2) := by rw [e40]; exact g_prK (by decide) G_0_3_39
  have G_0_13_40 : σ40.2.2.1 o 13 = some (o + 3) := by rw [e40]; exact g_prK (by decide) G_0_13_39
  have G_0_14_40 : σ40.2.2.1 o 14 = some (o + 4) := by rw [e40]; exact g_prK (by decide) G_0_14_39
  have G_0_15_40 : σ40.2.2.1 o 15 = some (o + 5) := by rw [e40]; exact g_prK (by decide) G_0_15_39
  have G_0_16_40 : σ40.2.2.1 o 16 = some (o + 6) := by rw [e40]; exact g_prK (by decide) G_0_16_39
  have G_0_17_40 : σ40.2.2.1 o 17 = some (o + 7) := by rw [e40]; exact g_prK (by decide) G_0_17_39
  have G_0_18_40 : σ40.2.2.1 o 18 = some (o + 8) := by rw [e40]; exact g_prK (by decide) G_0_18_39
  have G_0_19_40 : σ40.2.2.1 o 19 = some (o + 9) := by rw [e40]; exact g_prK (by decide) G_0_19_39
  have G_0_20_40 : σ40.2.2.1 o 20 = some (o + 10) := by rw [e40]; exact g_prK (by decide) G_0_20_39
  have G_0_21_40 : σ40.2.2.1 o 21 = some (o + 11) := by rw [e40]; exact g_prK (by decide) G_0_21_39
  have G_0_22_40 : σ40.2.2.1 o 22 = some (o + 12) := by rw [e40]; exact g_prK (by decide) G_0_22_39
  have G_0_23_40 : σ40.2.2.1 o 23 = some (o + 13) := by rw [e40]; exact g_prK (by decide) G_0_23_39
  have G_0_24_40 : σ40.2.2.1 o 24 = some (o + 14) := by rw [e40]; exact g_prK (by decide) G_0_24_39
  have G_0_25_40 : σ40.2.2.1 o 25 = some (o + 15) := by rw [e40]; exact g_prK (by decide) G_0_25_39
  have G_0_26_40 : σ40.2.2.1 o 26 = some (o + 16) := by rw [e40]; exact g_prK (by decide) G_0_26_39
  have G_0_38_40 : σ40.2.2.1 o 38 = some (o + 17) := by rw [e40]; exact g_prK (by decide) G_0_38_39
  have G_0_39_40 : σ40.2.2.1 o 39 = some (o + 18) := by rw [e40]; exact g_prK (by decide) G_0_39_39
  have G_0_40_40 : σ40.2.2.1 o 40 = some (o + 19) := by rw [e40]; exact g_prK (by decide) G_0_40_39
  have R_0_40 : σ40.2.2.2.1 o = fun _ => 0 := by rw [e40]; exact R_0_39
  have R_1_40 : σ40.2.2.2.1 (o + 1) = fun _ => 0 := by rw [e40]; exact R_1_39
  have R_2_40 : σ40.2.2.2.1 (o + 2) = fun _ => 0 := by rw [e40]; exact R_2_39
  have R_3_40 : σ40.2.2.2.1 (o + 3) = fun _ => 0 := by rw [e40]; exact R_3_39
  have R_4_40 : σ40.2.2.2.1 (o + 4) = fun _ => 0 := by rw [e40]; exact R_4_39
  have R_5_40 : σ40.2.2.2.1 (o + 5) = fun _ => 0 := by rw [e40]; exact R_5_39
  have R_6_40 : σ40.2.2.2.1 (o + 6) = fun _ => 0 := by rw [e40]; exact R_6_39
  have R_7_40 : σ40.2.2.2.1 (o + 7) = fun _ => 0 := by rw [e40]; exact R_7_39
  have R_8_40 : σ40.2.2.2.1 (o + 8) = fun _ => 0 := by rw [e40]; exact R_8_39
  have R_9_40 : σ40.2.2.2.1 (o + 9) = fun _ => 0 := by rw [e40]; exact R_9_39
  have R_10_40 : σ40.2.2.2.1 (o + 10) = fun _ => 0 := by rw [e40]; exact R_10_39
  have R_11_40 : σ40.2.2.2.1 (o + 11) = fun _ => 0 := by rw [e40]; exact R_11_39
  have R_12_40 : σ40.2.2.2.1 (o + 12) = fun _ => 0 := by rw [e40]; exact R_12_39
  have R_13_40 : σ40.2.2.2.1 (o + 13) = fun _ => 0 := by rw [e40]; exact R_13_39
  have R_14_40 : σ40.2.2.2.1 (o + 14) = fun _ => 0 := by rw [e40]; exact R_14_39
  have R_15_40 : σ40.2.2.2.1 (o + 15) = fun _ => 0 := by rw [e40]; exact R_15_39
  have R_16_40 : σ40.2.2.2.1 (o + 16) = fun _ => 0 := by rw [e40]; exact R_16_39
  have R_17_40 : σ40.2.2.2.1 (o + 17) = fun _ => 0 := by rw [e40]; exact R_17_39
  have R_18_40 : σ40.2.2.2.1 (o + 18) = fun _ => 0 := by rw [e40]; exact R_18_39
  have R_19_40 : σ40.2.2.2.1 (o + 19) = fun _ => 0 := by rw [e40]; exact R_19_39
  have R_20_40 : σ40.2.2.2.1 (o + 20) = fun _ => 0 := by rw [e40]; exact R_20_39
  have G_0_41_40 : σ40.2.2.1 o 41 = some (o + 20) := by rw [e40]; exact g_prS
  clear K_0_39 K_1_39 K_2_39 K_3_39 K_4_39 K_5_39 K_6_39 K_7_39 K_8_39 K_9_39 K_10_39 K_11_39 K_12_39 K_13_39 K_14_39 K_15_39 K_16_39 K_17_39 K_18_39 K_19_39 K_20_39 G_0_2_39 G_0_3_39 G_0_13_39 G_0_14_39 G_0_15_39 G_0_16_39 G_0_17_39 G_0_18_39 G_0_19_39 G_0_20_39 G_0_21_39 G_0_22_39 G_0_23_39 G_0_24_39 G_0_25_39 G_0_26_39 G_0_38_39 G_0_39_39 G_0_40_39 R_0_39 R_1_39 R_2_39 R_3_39 R_4_39 R_5_39 R_6_39 R_7_39 R_8_39 R_9_39 R_10_39 R_11_39 R_12_39 R_13_39 R_14_39 R_15_39 R_16_39 R_17_39 R_18_39 R_19_39 R_20_39 N_39 T_39 O_39 X_39 e40 σ39
  show RC _ _ _ [some (.ref o), none, none, none] [] σ40 _
  refine c_aload rfl ?_
  refine c_int ?_
  refine c_newa (t := 0) (z := 1064) (by decide) (by decide) (mOut_lt (ltL [o] rfl (List.forall_mem_cons.mpr ⟨by omega, (fun _ h => absurd h List.not_mem_nil)⟩)) (ltS [o] rfl (List.forall_mem_cons.mpr ⟨by omega, (fun _ h => absurd h List.not_mem_nil)⟩))) O_40 ?_
  rw [show ((1064 : Int32)).toNatClampNeg = 1064 by decide]
  obtain ⟨σ41, e41⟩ : ∃ x, x = mNew σ40 20 1064 1064 := ⟨_, rfl⟩
  rw [← e41, show σ40.2.1.length = o + 21 by omega]
  have N_41 : σ41.2.1.length = o + 22 := by rw [e41, len_new]; omega
  have T_41 : σ41.1 = σ.1 + 8596 := by rw [e41]; show σ40.1 + 1064 = _; omega
  have O_41 : rOK σ41 := by rw [e41]; exact rOK_new O_40
  have X_41 : Ex σ σ41 o := by rw [e41]; exact X_40.new (by omega)
  have K_0_41 : σ41.2.1[o]? = some (10, 0) := by rw [e41]; exact k_new K_0_40
  have K_1_41 : σ41.2.1[o + 1]? = some (23, 43) := by rw [e41]; exact k_new K_1_40
  have K_2_41 : σ41.2.1[o + 2]? = some (20, 700) := by rw [e41]; exact k_new K_2_40
  have K_3_41 : σ41.2.1[o + 3]? = some (20, 100) := by rw [e41]; exact k_new K_3_40
  have K_4_41 : σ41.2.1[o + 4]? = some (20, 100) := by rw [e41]; exact k_new K_4_40
  have K_5_41 : σ41.2.1[o + 5]? = some (20, 101) := by rw [e41]; exact k_new K_5_40
  have K_6_41 : σ41.2.1[o + 6]? = some (20, 192) := by rw [e41]; exact k_new K_6_40
  have K_7_41 : σ41.2.1[o + 7]? = some (20, 48) := by rw [e41]; exact k_new K_7_40
  have K_8_41 : σ41.2.1[o + 8]? = some (20, 8) := by rw [e41]; exact k_new K_8_40
  have K_9_41 : σ41.2.1[o + 9]? = some (20, 100) := by rw [e41]; exact k_new K_9_40
  have K_10_41 : σ41.2.1[o + 10]? = some (20, 100) := by rw [e41]; exact k_new K_10_40
  have K_11_41 : σ41.2.1[o + 11]? = some (20, 101) := by rw [e41]; exact k_new K_11_40
  have K_12_41 : σ41.2.1[o + 12]? = some (20, 8) := by rw [e41]; exact k_new K_12_40
  have K_13_41 : σ41.2.1[o + 13]? = some (23, 101) := by rw [e41]; exact k_new K_13_40
  have K_14_41 : σ41.2.1[o + 14]? = some (23, 112) := by rw [e41]; exact k_new K_14_40
  have K_15_41 : σ41.2.1[o + 15]? = some (20, 112) := by rw [e41]; exact k_new K_15_40
  have K_16_41 : σ41.2.1[o + 16]? = some (20, 112) := by rw [e41]; exact k_new K_16_40
  have K_17_41 : σ41.2.1[o + 17]? = some (20, 532) := by rw [e41]; exact k_new K_17_40
  have K_18_41 : σ41.2.1[o + 18]? = some (20, 174) := by rw [e41]; exact k_new K_18_40
  have K_19_41 : σ41.2.1[o + 19]? = some (20, 532) := by rw [e41]; exact k_new K_19_40
  have K_20_41 : σ41.2.1[o + 20]? = some (20, 4256) := by rw [e41]; exact k_new K_20_40
  have G_0_2_41 : σ41.2.2.1 o 2 = some (o + 1) := by rw [e41]; exact g_new (by omega) G_0_2_40
  have G_0_3_41 : σ41.2.2.1 o 3 = some (o + 2) := by rw [e41]; exact g_new (by omega) G_0_3_40
  have G_0_13_41 : σ41.2.2.1 o 13 = some (o + 3) := by rw [e41]; exact g_new (by omega) G_0_13_40
  have G_0_14_41 : σ41.2.2.1 o 14 = some (o + 4) := by rw [e41]; exact g_new (by omega) G_0_14_40
  have G_0_15_41 : σ41.2.2.1 o 15 = some (o + 5) := by rw [e41]; exact g_new (by omega) G_0_15_40
  have G_0_16_41 : σ41.2.2.1 o 16 = some (o + 6) := by rw [e41]; exact g_new (by omega) G_0_16_40
  have G_0_17_41 : σ41.2.2.1 o 17 = some (o + 7) := by rw [e41]; exact g_new (by omega) G_0_17_40
  have G_0_18_41 : σ41.2.2.1 o 18 = some (o + 8) := by rw [e41]; exact g_new (by omega) G_0_18_40
  have G_0_19_41 : σ41.2.2.1 o 19 = some (o + 9) := by rw [e41]; exact g_new (by omega) G_0_19_40
  have G_0_20_41 : σ41.2.2.1 o 20 = some (o + 10) := by rw [e41]; exact g_new (by omega) G_0_20_40
  have G_0_21_41 : σ41.2.2.1 o 21 = some (o + 11) := by rw [e41]; exact g_new (by omega) G_0_21_40
  have G_0_22_41 : σ41.2.2.1 o 22 = some (o + 12) := by rw [e41]; exact g_new (by omega) G_0_22_40
  have G_0_23_41 : σ41.2.2.1 o 23 = some (o + 13) := by rw [e41]; exact g_new (by omega) G_0_23_40
  have G_0_24_41 : σ41.2.2.1 o 24 = some (o + 14) := by rw [e41]; exact g_new (by omega) G_0_24_40
  have G_0_25_41 : σ41.2.2.1 o 25 = some (o + 15) := by rw [e41]; exact g_new (by omega) G_0_25_40
  have G_0_26_41 : σ41.2.2.1 o 26 = some (o + 16) := by rw [e41]; exact g_new (by omega) G_0_26_40
  have G_0_38_41 : σ41.2.2.1 o 38 = some (o + 17) := by rw [e41]; exact g_new (by omega) G_0_38_40
  have G_0_39_41 : σ41.2.2.1 o 39 = some (o + 18) := by rw [e41]; exact g_new (by omega) G_0_39_40
  have G_0_40_41 : σ41.2.2.1 o 40 = some (o + 19) := by rw [e41]; exact g_new (by omega) G_0_40_40
  have G_0_41_41 : σ41.2.2.1 o 41 = some (o + 20) := by rw [e41]; exact g_new (by omega) G_0_41_40
  have R_0_41 : σ41.2.2.2.1 o = fun _ => 0 := by rw [e41]; exact (mup_ne (by omega)).trans R_0_40
  have R_1_41 : σ41.2.2.2.1 (o + 1) = fun _ => 0 := by rw [e41]; exact (mup_ne (by omega)).trans R_1_40
  have R_2_41 : σ41.2.2.2.1 (o + 2) = fun _ => 0 := by rw [e41]; exact (mup_ne (by omega)).trans R_2_40
  have R_3_41 : σ41.2.2.2.1 (o + 3) = fun _ => 0 := by rw [e41]; exact (mup_ne (by omega)).trans R_3_40
  have R_4_41 : σ41.2.2.2.1 (o + 4) = fun _ => 0 := by rw [e41]; exact (mup_ne (by omega)).trans R_4_40
  have R_5_41 : σ41.2.2.2.1 (o + 5) = fun _ => 0 := by rw [e41]; exact (mup_ne (by omega)).trans R_5_40
  have R_6_41 : σ41.2.2.2.1 (o + 6) = fun _ => 0 := by rw [e41]; exact (mup_ne (by omega)).trans R_6_40
  have R_7_41 : σ41.2.2.2.1 (o + 7) = fun _ => 0 := by rw [e41]; exact (mup_ne (by omega)).trans R_7_40
  have R_8_41 : σ41.2.2.2.1 (o + 8) = fun _ => 0 := by rw [e41]; exact (mup_ne (by omega)).trans R_8_40
  have R_9_41 : σ41.2.2.2.1 (o + 9) = fun _ => 0 := by rw [e41]; exact (mup_ne (by omega)).trans R_9_40
  have R_10_41 : σ41.2.2.2.1 (o + 10) = fun _ => 0 := by rw [e41]; exact (mup_ne (by omega)).trans R_10_40
  have R_11_41 : σ41.2.2.2.1 (o + 11) = fun _ => 0 := by rw [e41]; exact (mup_ne (by omega)).trans R_11_40
  have R_12_41 : σ41.2.2.2.1 (o + 12) = fun _ => 0 := by rw [e41]; exact (mup_ne (by omega)).trans R_12_40
  have R_13_41 : σ41.2.2.2.1 (o + 13) = fun _ => 0 := by rw [e41]; exact (mup_ne (by omega)).trans R_13_40
  have R_14_41 : σ41.2.2.2.1 (o + 14) = fun _ => 0 := by rw [e41]; exact (mup_ne (by omega)).trans R_14_40
  have R_15_41 : σ41.2.2.2.1 (o + 15) = fun _ => 0 := by rw [e41]; exact (mup_ne (by omega)).trans R_15_40
  have R_16_41 : σ41.2.2.2.1 (o + 16) = fun _ => 0 := by rw [e41]; exact (mup_ne (by omega)).trans R_16_40
  have R_17_41 : σ41.2.2.2.1 (o + 17) = fun _ => 0 := by rw [e41]; exact (mup_ne (by omega)).trans R_17_40
  have R_18_41 : σ41.2.2.2.1 (o + 18) = fun _ => 0 := by rw [e41]; exact (mup_ne (by omega)).trans R_18_40
  have R_19_41 : σ41.2.2.2.1 (o + 19) = fun _ => 0 := by rw [e41]; exact (mup_ne (by omega)).trans R_19_40
  have R_20_41 : σ41.2.2.2.1 (o + 20) = fun _ => 0 := by rw [e41]; exact (mup_ne (by omega)).trans R_20_40
  have K_21_41 : σ41.2.1[o + 21]? = some (20, 1064) := by rw [e41, ← show σ40.2.1.length = o + 21 by omega]; exact k_newS
  have R_21_41 : σ41.2.2.2.1 (o + 21) = fun _ => 0 := by rw [e41, ← show σ40.2.1.length = o + 21 by omega]; exact mup_eq
  clear K_0_40 K_1_40 K_2_40 K_3_40 K_4_40 K_5_40 K_6_40 K_7_40 K_8_40 K_9_40 K_10_40 K_11_40 K_12_40 K_13_40 K_14_40 K_15_40 K_16_40 K_17_40 K_18_40 K_19_40 K_20_40 G_0_2_40 G_0_3_40 G_0_13_40 G_0_14_40 G_0_15_40 G_0_16_40 G_0_17_40 G_0_18_40 G_0_19_40 G_0_20_40 G_0_21_40 G_0_22_40 G_0_23_40 G_0_24_40 G_0_25_40 G_0_26_40 G_0_38_40 G_0_39_40 G_0_40_40 G_0_41_40 R_0_40 R_1_40 R_2_40 R_3_40 R_4_40 R_5_40 R_6_40 R_7_40 R_8_40 R_9_40 R_10_40 R_11_40 R_12_40 R_13_40 R_14_40 R_15_40 R_16_40 R_17_40 R_18_40 R_19_40 R_20_40 N_40 T_40 O_40 X_40 e41 σ40
  show RC _ _ _ [some (.ref o), none, none, none] [.ref (o + 21), .ref o] σ41 _
  refine c_putr K_0_41 ?_
  obtain ⟨σ42, e42⟩ : ∃ x, x = mPr σ41 o 42 (some (o + 21)) := ⟨_, rfl⟩
  rw [← e42]
  have N_42 : σ42.2.1.length = o + 22 := by rw [e42]; exact N_41
  have T_42 : σ42.1 = σ.1 + 8596 := by rw [e42]; exact T_41
  have O_42 : rOK σ42 := by rw [e42]; exact rOK_pr O_41 (by omega)
  have X_42 : Ex σ σ42 o := by rw [e42]; exact X_41.pr (by omega)
  have K_0_42 : σ42.2.1[o]? = some (10, 0) := by rw [e42]; exact K_0_41
  have K_1_42 : σ42.2.1[o + 1]? = some (23, 43) := by rw [e42]; exact K_1_41
  have K_2_42 : σ42.2.1[o + 2]? = some (20, 700) := by rw [e42]; exact K_2_41
  have K_3_42 : σ42.2.1[o + 3]? = some (20, 100) := by rw [e42]; exact K_3_41
  have K_4_42 : σ42.2.1[o + 4]? = some (20, 100) := by rw [e42]; exact K_4_41
  have K_5_42 : σ42.2.1[o + 5]? = some (20, 101) := by rw [e42]; exact K_5_41
  have K_6_42 : σ42.2.1[o + 6]? = some (20, 192) := by rw [e42]; exact K_6_41
  have K_7_42 : σ42.2.1[o + 7]? = some (20, 48) := by rw [e42]; exact K_7_41
  have K_8_42 : σ42.2.1[o + 8]? = some (20, 8) := by rw [e42]; exact K_8_41
  have K_9_42 : σ42.2.1[o + 9]? = some (20, 100) := by rw [e42]; exact K_9_41
  have K_10_42 : σ42.2.1[o + 10]? = some (20, 100) := by rw [e42]; exact K_10_41
  have K_11_42 : σ42.2.1[o + 11]? = some (20, 101) := by rw [e42]; exact K_11_41
  have K_12_42 : σ42.2.1[o + 12]? = some (20, 8) := by rw [e42]; exact K_12_41
  have K_13_42 : σ42.2.1[o + 13]? = some (23, 101) := by rw [e42]; exact K_13_41
  have K_14_42 : σ42.2.1[o + 14]? = some (23, 112) := by rw [e42]; exact K_14_41
  have K_15_42 : σ42.2.1[o + 15]? = some (20, 112) := by rw [e42]; exact K_15_41
  have K_16_42 : σ42.2.1[o + 16]? = some (20, 112) := by rw [e42]; exact K_16_41
  have K_17_42 : σ42.2.1[o + 17]? = some (20, 532) := by rw [e42]; exact K_17_41
  have K_18_42 : σ42.2.1[o + 18]? = some (20, 174) := by rw [e42]; exact K_18_41
  have K_19_42 : σ42.2.1[o + 19]? = some (20, 532) := by rw [e42]; exact K_19_41
  have K_20_42 : σ42.2.1[o + 20]? = some (20, 4256) := by rw [e42]; exact K_20_41
  have K_21_42 : σ42.2.1[o + 21]? = some (20, 1064) := by rw [e42]; exact K_21_41
  have G_0_2_42 : σ42.2.2.1 o 2 = some (o + 1) := by rw [e42]; exact g_prK (by decide) G_0_2_41
  have G_0_3_42 : σ42.2.2.1 o 3 = some (o + 2) := by rw [e42]; exact g_prK (by decide) G_0_3_41
  have G_0_13_42 : σ42.2.2.1 o 13 = some (o + 3) := by rw [e42]; exact g_prK (by decide) G_0_13_41
  have G_0_14_42 : σ42.2.2.1 o 14 = some (o + 4) := by rw [e42]; exact g_prK (by decide) G_0_14_41
  have G_0_15_42 : σ42.2.2.1 o 15 = some (o + 5) := by rw [e42]; exact g_prK (by decide) G_0_15_41
  have G_0_16_42 : σ42.2.2.1 o 16 = some (o + 6) := by rw [e42]; exact g_prK (by decide) G_0_16_41
  have G_0_17_42 : σ42.2.2.1 o 17 = some (o + 7) := by rw [e42]; exact g_prK (by decide) G_0_17_41
  have G_0_18_42 : σ42.2.2.1 o 18 = some (o + 8) := by rw [e42]; exact g_prK (by decide) G_0_18_41
  have G_0_19_42 : σ42.2.2.1 o 19 = some (o + 9) := by rw [e42]; exact g_prK (by decide) G_0_19_41
  have G_0_20_42 : σ42.2.2.1 o 20 = some (o + 10) := by rw [e42]; exact g_prK (by decide) G_0_20_41
  have G_0_21_42 : σ42.2.2.1 o 21 = some (o + 11) := by rw [e42]; exact g_prK (by decide) G_0_21_41
  have G_0_22_42 : σ42.2.2.1 o 22 = some (o + 12) := by rw [e42]; exact g_prK (by decide) G_0_22_41
  have G_0_23_42 : σ42.2.2.1 o 23 = some (o + 13) := by rw [e42]; exact g_prK (by decide) G_0_23_41
  have G_0_24_42 : σ42.2.2.1 o 24 = some (o + 14) := by rw [e42]; exact g_prK (by decide) G_0_24_41
  have G_0_25_42 : σ42.2.2.1 o 25 = some (o + 15) := by rw [e42]; exact g_prK (by decide) G_0_25_41
  have G_0_26_42 : σ42.2.2.1 o 26 = some (o + 16) := by rw [e42]; exact g_prK (by decide) G_0_26_41
  have G_0_38_42 : σ42.2.2.1 o 38 = some (o + 17) := by rw [e42]; exact g_prK (by decide) G_0_38_41
  have G_0_39_42 : σ42.2.2.1 o 39 = some (o + 18) := by rw [e42]; exact g_prK (by decide) G_0_39_41
  have G_0_40_42 : σ42.2.2.1 o 40 = some (o + 19) := by rw [e42]; exact g_prK (by decide) G_0_40_41
  have G_0_41_42 : σ42.2.2.1 o 41 = some (o + 20) := by rw [e42]; exact g_prK (by decide) G_0_41_41
  have R_0_42 : σ42.2.2.2.1 o = fun _ => 0 := by rw [e42]; exact R_0_41
  have R_1_42 : σ42.2.2.2.1 (o + 1) = fun _ => 0 := by rw [e42]; exact R_1_41
  have R_2_42 : σ42.2.2.2.1 (o + 2) = fun _ => 0 := by rw [e42]; exact R_2_41
  have R_3_42 : σ42.2.2.2.1 (o + 3) = fun _ => 0 := by rw [e42]; exact R_3_41
  have R_4_42 : σ42.2.2.2.1 (o + 4) = fun _ => 0 := by rw [e42]; exact R_4_41
  have R_5_42 : σ42.2.2.2.1 (o + 5) = fun _ => 0 := by rw [e42]; exact R_5_41
  have R_6_42 : σ42.2.2.2.1 (o + 6) = fun _ => 0 := by rw [e42]; exact R_6_41
  have R_7_42 : σ42.2.2.2.1 (o + 7) = fun _ => 0 := by rw [e42]; exact R_7_41
  have R_8_42 : σ42.2.2.2.1 (o + 8) = fun _ => 0 := by rw [e42]; exact R_8_41
  have R_9_42 : σ42.2.2.2.1 (o + 9) = fun _ => 0 := by rw [e42]; exact R_9_41
  have R_10_42 : σ42.2.2.2.1 (o + 10) = fun _ => 0 := by rw [e42]; exact R_10_41
  have R_11_42 : σ42.2.2.2.1 (o + 11) = fun _ => 0 := by rw [e42]; exact R_11_41
  have R_12_42 : σ42.2.2.2.1 (o + 12) = fun _ => 0 := by rw [e42]; exact R_12_41
  have R_13_42 : σ42.2.2.2.1 (o + 13) = fun _ => 0 := by rw [e42]; exact R_13_41
  have R_14_42 : σ42.2.2.2.1 (o + 14) = fun _ => 0 := by rw [e42]; exact R_14_41
  have R_15_42 : σ42.2.2.2.1 (o + 15) = fun _ => 0 := by rw [e42]; exact R_15_41
  have R_16_42 : σ42.2.2.2.1 (o + 16) = fun _ => 0 := by rw [e42]; exact R_16_41
  have R_17_42 : σ42.2.2.2.1 (o + 17) = fun _ => 0 := by rw [e42]; exact R_17_41
  have R_18_42 : σ42.2.2.2.1 (o + 18) = fun _ => 0 := by rw [e42]; exact R_18_41
  have R_19_42 : σ42.2.2.2.1 (o + 19) = fun _ => 0 := by rw [e42]; exact R_19_41
  have R_20_42 : σ42.2.2.2.1 (o + 20) = fun _ => 0 := by rw [e42]; exact R_20_41
  have R_21_42 : σ42.2.2.2.1 (o + 21) = fun _ => 0 := by rw [e42]; exact R_21_41
  have G_0_42_42 : σ42.2.2.1 o 42 = some (o + 21) := by rw [e42]; exact g_prS
  clear K_0_41 K_1_41 K_2_41 K_3_41 K_4_41 K_5_41 K_6_41 K_7_41 K_8_41 K_9_41 K_10_41 K_11_41 K_12_41 K_13_41 K_14_41 K_15_41 K_16_41 K_17_41 K_18_41 K_19_41 K_20_41 K_21_41 G_0_2_41 G_0_3_41 G_0_13_41 G_0_14_41 G_0_15_41 G_0_16_41 G_0_17_41 G_0_18_41 G_0_19_41 G_0_20_41 G_0_21_41 G_0_22_41 G_0_23_41 G_0_24_41 G_0_25_41 G_0_26_41 G_0_38_41 G_0_39_41 G_0_40_41 G_0_41_41 R_0_41 R_1_41 R_2_41 R_3_41 R_4_41 R_5_41 R_6_41 R_7_41 R_8_41 R_9_41 R_10_41 R_11_41 R_12_41 R_13_41 R_14_41 R_15_41 R_16_41 R_17_41 R_18_41 R_19_41 R_20_41 R_21_41 N_41 T_41 O_41 X_41 e42 σ41
  show RC _ _ _ [some (.ref o), none, none, none] [] σ42 _
  refine c_aload rfl ?_
  refine c_int ?_
  refine c_newa (t := 2) (z := 2) (by decide) (by decide) (mOut_lt (ltL [o] rfl (List.forall_mem_cons.mpr ⟨by omega, (fun _ h => absurd h List.not_mem_nil)⟩)) (ltS [o] rfl (List.forall_mem_cons.mpr ⟨by omega, (fun _ h => absurd h List.not_mem_nil)⟩))) O_42 ?_
  rw [show ((2 : Int32)).toNatClampNeg = 2 by decide]
  obtain ⟨σ43, e43⟩ : ∃ x, x = mNew σ42 22 2 2 := ⟨_, rfl⟩
  rw [← e43, show σ42.2.1.length = o + 22 by omega]
  have N_43 : σ43.2.1.length = o + 23 := by rw [e43, len_new]; omega
  have T_43 : σ43.1 = σ.1 + 8598 := by rw [e43]; show σ42.1 + 2 = _; omega
  have O_43 : rOK σ43 := by rw [e43]; exact rOK_new O_42
  have X_43 : Ex σ σ43 o := by rw [e43]; exact X_42.new (by omega)
  have K_0_43 : σ43.2.1[o]? = some (10, 0) := by rw [e43]; exact k_new K_0_42
  have K_1_43 : σ43.2.1[o + 1]? = some (23, 43) := by rw [e43]; exact k_new K_1_42
  have K_2_43 : σ43.2.1[o + 2]? = some (20, 700) := by rw [e43]; exact k_new K_2_42
  have K_3_43 : σ43.2.1[o + 3]? = some (20, 100) := by rw [e43]; exact k_new K_3_42
  have K_4_43 : σ43.2.1[o + 4]? = some (20, 100) := by rw [e43]; exact k_new K_4_42
  have K_5_43 : σ43.2.1[o + 5]? = some (20, 101) := by rw [e43]; exact k_new K_5_42
  have K_6_43 : σ43.2.1[o + 6]? = some (20, 192) := by rw [e43]; exact k_new K_6_42
  have K_7_43 : σ43.2.1[o + 7]? = some (20, 48) := by rw [e43]; exact k_new K_7_42
  have K_8_43 : σ43.2.1[o + 8]? = some (20, 8) := by rw [e43]; exact k_new K_8_42
  have K_9_43 : σ43.2.1[o + 9]? = some (20, 100) := by rw [e43]; exact k_new K_9_42
  have K_10_43 : σ43.2.1[o + 10]? = some (20, 100) := by rw [e43]; exact k_new K_10_42
  have K_11_43 : σ43.2.1[o + 11]? = some (20, 101) := by rw [e43]; exact k_new K_11_42
  have K_12_43 : σ43.2.1[o + 12]? = some (20, 8) := by rw [e43]; exact k_new K_12_42
  have K_13_43 : σ43.2.1[o + 13]? = some (23, 101) := by rw [e43]; exact k_new K_13_42
  have K_14_43 : σ43.2.1[o + 14]? = some (23, 112) := by rw [e43]; exact k_new K_14_42
  have K_15_43 : σ43.2.1[o + 15]? = some (20, 112) := by rw [e43]; exact k_new K_15_42
  have K_16_43 : σ43.2.1[o + 16]? = some (20, 112) := by rw [e43]; exact k_new K_16_42
  have K_17_43 : σ43.2.1[o + 17]? = some (20, 532) := by rw [e43]; exact k_new K_17_42
  have K_18_43 : σ43.2.1[o + 18]? = some (20, 174) := by rw [e43]; exact k_new K_18_42
  have K_19_43 : σ43.2.1[o + 19]? = some (20, 532) := by rw [e43]; exact k_new K_19_42
  have K_20_43 : σ43.2.1[o + 20]? = some (20, 4256) := by rw [e43]; exact k_new K_20_42
  have K_21_43 : σ43.2.1[o + 21]? = some (20, 1064) := by rw [e43]; exact k_new K_21_42
  have G_0_2_43 : σ43.2.2.1 o 2 = some (o + 1) := by rw [e43]; exact g_new (by omega) G_0_2_42
  have G_0_3_43 : σ43.2.2.1 o 3 = some (o + 2) := by rw [e43]; exact g_new (by omega) G_0_3_42
  have G_0_13_43 : σ43.2.2.1 o 13 = some (o + 3) := by rw [e43]; exact g_new (by omega) G_0_13_42
  have G_0_14_43 : σ43.2.2.1 o 14 = some (o + 4) := by rw [e43]; exact g_new (by omega) G_0_14_42
  have G_0_15_43 : σ43.2.2.1 o 15 = some (o + 5) := by rw [e43]; exact g_new (by omega) G_0_15_42
  have G_0_16_43 : σ43.2.2.1 o 16 = some (o + 6) := by rw [e43]; exact g_new (by omega) G_0_16_42
  have G_0_17_43 : σ43.2.2.1 o 17 = some (o + 7) := by rw [e43]; exact g_new (by omega) G_0_17_42
  have G_0_18_43 : σ43.2.2.1 o 18 = some (o + 8) := by rw [e43]; exact g_new (by omega) G_0_18_42
  have G_0_19_43 : σ43.2.2.1 o 19 = some (o + 9) := by rw [e43]; exact g_new (by omega) G_0_19_42
  have G_0_20_43 : σ43.2.2.1 o 20 = some (o + 10) := by rw [e43]; exact g_new (by omega) G_0_20_42
  have G_0_21_43 : σ43.2.2.1 o 21 = some (o + 11) := by rw [e43]; exact g_new (by omega) G_0_21_42
  have G_0_22_43 : σ43.2.2.1 o 22 = some (o + 12) := by rw [e43]; exact g_new (by omega) G_0_22_42
  have G_0_23_43 : σ43.2.2.1 o 23 = some (o + 13) := by rw [e43]; exact g_new (by omega) G_0_23_42
  have G_0_24_43 : σ43.2.2.1 o 24 = some (o + 14) := by rw [e43]; exact g_new (by omega) G_0_24_42
  have G_0_25_43 : σ43.2.2.1 o 25 = some (o + 15) := by rw [e43]; exact g_new (by omega) G_0_25_42
  have G_0_26_43 : σ43.2.2.1 o 26 = some (o + 16) := by rw [e43]; exact g_new (by omega) G_0_26_42
  have G_0_38_43 : σ43.2.2.1 o 38 = some (o + 17) := by rw [e43]; exact g_new (by omega) G_0_38_42
  have G_0_39_43 : σ43.2.2.1 o 39 = some (o + 18) := by rw [e43]; exact g_new (by omega) G_0_39_42
  have G_0_40_43 : σ43.2.2.1 o 40 = some (o + 19) := by rw [e43]; exact g_new (by omega) G_0_40_42
  have G_0_41_43 : σ43.2.2.1 o 41 = some (o + 20) := by rw [e43]; exact g_new (by omega) G_0_41_42
  have G_0_42_43 : σ43.2.2.1 o 42 = some (o + 21) := by rw [e43]; exact g_new (by omega) G_0_42_42
  have R_0_43 : σ43.2.2.2.1 o = fun _ => 0 := by rw [e43]; exact (mup_ne (by omega)).trans R_0_42
  have R_1_43 : σ43.2.2.2.1 (o + 1) = fun _ => 0 := by rw [e43]; exact (mup_ne (by omega)).trans R_1_42
  have R_2_43 : σ43.2.2.2.1 (o + 2) = fun _ => 0 := by rw [e43]; exact (mup_ne (by omega)).trans R_2_42
  have R_3_43 : σ43.2.2.2.1 (o + 3) = fun _ => 0 := by rw [e43]; exact (mup_ne (by omega)).trans R_3_42
  have R_4_43 : σ43.2.2.2.1 (o + 4) = fun _ => 0 := by rw [e43]; exact (mup_ne (by omega)).trans R_4_42
  have R_5_43 : σ43.2.2.2.1 (o + 5) = fun _ => 0 := by rw [e43]; exact (mup_ne (by omega)).trans R_5_42
  have R_6_43 : σ43.2.2.2.1 (o + 6) = fun _ => 0 := by rw [e43]; exact (mup_ne (by omega)).trans R_6_42
  have R_7_43 : σ43.2.2.2.1 (o + 7) = fun _ => 0 := by rw [e43]; exact (mup_ne (by omega)).trans R_7_42
  have R_8_43 : σ43.2.2.2.1 (o + 8) = fun _ => 0 := by rw [e43]; exact (mup_ne (by omega)).trans R_8_42
  have R_9_43 : σ43.2.2.2.1 (o + 9) = fun _ => 0 := by rw [e43]; exact (mup_ne (by omega)).trans R_9_42
  have R_10_43 : σ43.2.2.2.1 (o + 10) = fun _ => 0 := by rw [e43]; exact (mup_ne (by omega)).trans R_10_42
  have R_11_43 : σ43.2.2.2.1 (o + 11) = fun _ => 0 := by rw [e43]; exact (mup_ne (by omega)).trans R_11_42
  have R_12_43 : σ43.2.2.2.1 (o + 12) = fun _ => 0 := by rw [e43]; exact (mup_ne (by omega)).trans R_12_42
  have R_13_43 : σ43.2.2.2.1 (o + 13) = fun _ => 0 := by rw [e43]; exact (mup_ne (by omega)).trans R_13_42
  have R_14_43 : σ43.2.2.2.1 (o + 14) = fun _ => 0 := by rw [e43]; exact (mup_ne (by omega)).trans R_14_42
  have R_15_43 : σ43.2.2.2.1 (o + 15) = fun _ => 0 := by rw [e43]; exact (mup_ne (by omega)).trans R_15_42
  have R_16_43 : σ43.2.2.2.1 (o + 16) = fun _ => 0 := by rw [e43]; exact (mup_ne (by omega)).trans R_16_42
  have R_17_43 : σ43.2.2.2.1 (o + 17) = fun _ => 0 := by rw [e43]; exact (mup_ne (by omega)).trans R_17_42
  have R_18_43 : σ43.2.2.2.1 (o + 18) = fun _ => 0 := by rw [e43]; exact (mup_ne (by omega)).trans R_18_42
  have R_19_43 : σ43.2.2.2.1 (o + 19) = fun _ => 0 := by rw [e43]; exact (mup_ne (by omega)).trans R_19_42
  have R_20_43 : σ43.2.2.2.1 (o + 20) = fun _ => 0 := by rw [e43]; exact (mup_ne (by omega)).trans R_20_42
  have R_21_43 : σ43.2.2.2.1 (o + 21) = fun _ => 0 := by rw [e43]; exact (mup_ne (by omega)).trans R_21_42
  have K_22_43 : σ43.2.1[o + 22]? = some (22, 2) := by rw [e43, ← show σ42.2.1.length = o + 22 by omega]; exact k_newS
  have R_22_43 : σ43.2.2.2.1 (o + 22) = fun _ => 0 := by rw [e43, ← show σ42.2.1.length = o + 22 by omega]; exact mup_eq
  clear K_0_42 K_1_42 K_2_42 K_3_42 K_4_42 K_5_42 K_6_42 K_7_42 K_8_42 K_9_42 K_10_42 K_11_42 K_12_42 K_13_42 K_14_42 K_15_42 K_16_42 K_17_42 K_18_42 K_19_42 K_20_42 K_21_42 G_0_2_42 G_0_3_42 G_0_13_42 G_0_14_42 G_0_15_42 G_0_16_42 G_0_17_42 G_0_18_42 G_0_19_42 G_0_20_42 G_0_21_42 G_0_22_42 G_0_23_42 G_0_24_42 G_0_25_42 G_0_26_42 G_0_38_42 G_0_39_42 G_0_40_42 G_0_41_42 G_0_42_42 R_0_42 R_1_42 R_2_42 R_3_42 R_4_42 R_5_42 R_6_42 R_7_42 R_8_42 R_9_42 R_10_42 R_11_42 R_12_42 R_13_42 R_14_42 R_15_42 R_16_42 R_17_42 R_18_42 R_19_42 R_20_42 R_21_42 N_42 T_42 O_42 X_42 e43 σ42
  show RC _ _ _ [some (.ref o), none, none, none] [.ref (o + 22), .ref o] σ43 _
  refine c_putr K_0_43 ?_
  obtain ⟨σ44, e44⟩ : ∃ x, x = mPr σ43 o 43 (some (o + 22)) := ⟨_, rfl⟩
  rw [← e44]
  have N_44 : σ44.2.1.length = o + 23 := by rw [e44]; exact N_43
  have T_44 : σ44.1 = σ.1 + 8598 := by rw [e44]; exact T_43
  have O_44 : rOK σ44 := by rw [e44]; exact rOK_pr O_43 (by omega)
  have X_44 : Ex σ σ44 o := by rw [e44]; exact X_43.pr (by omega)
  have K_0_44 : σ44.2.1[o]? = some (10, 0) := by rw [e44]; exact K_0_43
  have K_1_44 : σ44.2.1[o + 1]? = some (23, 43) := by rw [e44]; exact K_1_43
  have K_2_44 : σ44.2.1[o + 2]? = some (20, 700) := by rw [e44]; exact K_2_43
  have K_3_44 : σ44.2.1[o + 3]? = some (20, 100) := by rw [e44]; exact K_3_43
  have K_4_44 : σ44.2.1[o + 4]? = some (20, 100) := by rw [e44]; exact K_4_43
  have K_5_44 : σ44.2.1[o + 5]? = some (20, 101) := by rw [e44]; exact K_5_43
  have K_6_44 : σ44.2.1[o + 6]? = some (20, 192) := by rw [e44]; exact K_6_43
  have K_7_44 : σ44.2.1[o + 7]? = some (20, 48) := by rw [e44]; exact K_7_43
  have K_8_44 : σ44.2.1[o + 8]? = some (20, 8) := by rw [e44]; exact K_8_43
  have K_9_44 : σ44.2.1[o + 9]? = some (20, 100) := by rw [e44]; exact K_9_43
  have K_10_44 : σ44.2.1[o + 10]? = some (20, 100) := by rw [e44]; exact K_10_43
  have K_11_44 : σ44.2.1[o + 11]? = some (20, 101) := by rw [e44]; exact K_11_43
  have K_12_44 : σ44.2.1[o + 12]? = some (20, 8) := by rw [e44]; exact K_12_43
  have K_13_44 : σ44.2.1[o + 13]? = some (23, 101) := by rw [e44]; exact K_13_43
  have K_14_44 : σ44.2.1[o + 14]? = some (23, 112) := by rw [e44]; exact K_14_43
  have K_15_44 : σ44.2.1[o + 15]? = some (20, 112) := by rw [e44]; exact K_15_43
  have K_16_44 : σ44.2.1[o + 16]? = some (20, 112) := by rw [e44]; exact K_16_43
  have K_17_44 : σ44.2.1[o + 17]? = some (20, 532) := by rw [e44]; exact K_17_43
  have K_18_44 : σ44.2.1[o + 18]? = some (20, 174) := by rw [e44]; exact K_18_43
  have K_19_44 : σ44.2.1[o + 19]? = some (20, 532) := by rw [e44]; exact K_19_43
  have K_20_44 : σ44.2.1[o + 20]? = some (20, 4256) := by rw [e44]; exact K_20_43
  have K_21_44 : σ44.2.1[o + 21]? = some (20, 1064) := by rw [e44]; exact K_21_43
  have K_22_44 : σ44.2.1[o + 22]? = some (22, 2) := by rw [e44]; exact K_22_43
  have G_0_2_44 : σ44.2.2.1 o 2 = some (o + 1) := by rw [e44]; exact g_prK (by decide) G_0_2_43
  have G_0_3_44 : σ44.2.2.1 o 3 = some (o + 2) := by rw [e44]; exact g_prK (by decide) G_0_3_43
  have G_0_13_44 : σ44.2.2.1 o 13 = some (o + 3) := by rw [e44]; exact g_prK (by decide) G_0_13_43
  have G_0_14_44 : σ44.2.2.1 o 14 = some (o + 4) := by rw [e44]; exact g_prK (by decide) G_0_14_43
  have G_0_15_44 : σ44.2.2.1 o 15 = some (o + 5) := by rw [e44]; exact g_prK (by decide) G_0_15_43
  have G_0_16_44 : σ44.2.2.1 o 16 = some (o + 6) := by rw [e44]; exact g_prK (by decide) G_0_16_43
  have G_0_17_44 : σ44.2.2.1 o 17 = some (o + 7) := by rw [e44]; exact g_prK (by decide) G_0_17_43
  have G_0_18_44 : σ44.2.2.1 o 18 = some (o + 8) := by rw [e44]; exact g_prK (by decide) G_0_18_43
  have G_0_19_44 : σ44.2.2.1 o 19 = some (o + 9) := by rw [e44]; exact g_prK (by decide) G_0_19_43
  have G_0_20_44 : σ44.2.2.1 o 20 = some (o + 10) := by rw [e44]; exact g_prK (by decide) G_0_20_43
  have G_0_21_44 : σ44.2.2.1 o 21 = some (o + 11) := by rw [e44]; exact g_prK (by decide) G_0_21_43
  have G_0_22_44 : σ44.2.2.1 o 22 = some (o + 12) := by rw [e44]; exact g_prK (by decide) G_0_22_43
  have G_0_23_44 : σ44.2.2.1 o 23 = some (o + 13) := by rw [e44]; exact g_prK (by decide) G_0_23_43
  have G_0_24_44 : σ44.2.2.1 o 24 = some (o + 14) := by rw [e44]; exact g_prK (by decide) G_0_24_43
  have G_0_25_44 : σ44.2.2.1 o 25 = some (o + 15) := by rw [e44]; exact g_prK (by decide) G_0_25_43
  have G_0_26_44 : σ44.2.2.1 o 26 = some (o + 16) := by rw [e44]; exact g_prK (by decide) G_0_26_43
  have G_0_38_44 : σ44.2.2.1 o 38 = some (o + 17) := by rw [e44]; exact g_prK (by decide) G_0_38_43
  have G_0_39_44 : σ44.2.2.1 o 39 = some (o + 18) := by rw [e44]; exact g_prK (by decide) G_0_39_43
  have G_0_40_44 : σ44.2.2.1 o 40 = some (o + 19) := by rw [e44]; exact g_prK (by decide) G_0_40_43
  have G_0_41_44 : σ44.2.2.1 o 41 = some (o + 20) := by rw [e44]; exact g_prK (by decide) G_0_41_43
  have G_0_42_44 : σ44.2.2.1 o 42 = some (o + 21) := by rw [e44]; exact g_prK (by decide) G_0_42_43
  have R_0_44 : σ44.2.2.2.1 o = fun _ => 0 := by rw [e44]; exact R_0_43
  have R_1_44 : σ44.2.2.2.1 (o + 1) = fun _ => 0 := by rw [e44]; exact R_1_43
  have R_2_44 : σ44.2.2.2.1 (o + 2) = fun _ => 0 := by rw [e44]; exact R_2_43
  have R_3_44 : σ44.2.2.2.1 (o + 3) = fun _ => 0 := by rw [e44]; exact R_3_43
  have R_4_44 : σ44.2.2.2.1 (o + 4) = fun _ => 0 := by rw [e44]; exact R_4_43
  have R_5_44 : σ44.2.2.2.1 (o + 5) = fun _ => 0 := by rw [e44]; exact R_5_43
  have R_6_44 : σ44.2.2.2.1 (o + 6) = fun _ => 0 := by rw [e44]; exact R_6_43
  have R_7_44 : σ44.2.2.2.1 (o + 7) = fun _ => 0 := by rw [e44]; exact R_7_43
  have R_8_44 : σ44.2.2.2.1 (o + 8) = fun _ => 0 := by rw [e44]; exact R_8_43
  have R_9_44 : σ44.2.2.2.1 (o + 9) = fun _ => 0 := by rw [e44]; exact R_9_43
  have R_10_44 : σ44.2.2.2.1 (o + 10) = fun _ => 0 := by rw [e44]; exact R_10_43
  have R_11_44 : σ44.2.2.2.1 (o + 11) = fun _ => 0 := by rw [e44]; exact R_11_43
  have R_12_44 : σ44.2.2.2.1 (o + 12) = fun _ => 0 := by rw [e44]; exact R_12_43
  have R_13_44 : σ44.2.2.2.1 (o + 13) = fun _ => 0 := by rw [e44]; exact R_13_43
  have R_14_44 : σ44.2.2.2.1 (o + 14) = fun _ => 0 := by rw [e44]; exact R_14_43
  have R_15_44 : σ44.2.2.2.1 (o + 15) = fun _ => 0 := by rw [e44]; exact R_15_43
  have R_16_44 : σ44.2.2.2.1 (o + 16) = fun _ => 0 := by rw [e44]; exact R_16_43
  have R_17_44 : σ44.2.2.2.1 (o + 17) = fun _ => 0 := by rw [e44]; exact R_17_43
  have R_18_44 : σ44.2.2.2.1 (o + 18) = fun _ => 0 := by rw [e44]; exact R_18_43
  have R_19_44 : σ44.2.2.2.1 (o + 19) = fun _ => 0 := by rw [e44]; exact R_19_43
  have R_20_44 : σ44.2.2.2.1 (o + 20) = fun _ => 0 := by rw [e44]; exact R_20_43
  have R_21_44 : σ44.2.2.2.1 (o + 21) = fun _ => 0 := by rw [e44]; exact R_21_43
  have R_22_44 : σ44.2.2.2.1 (o + 22) = fun _ => 0 := by rw [e44]; exact R_22_43
  have G_0_43_44 : σ44.2.2.1 o 43 = some (o + 22) := by rw [e44]; exact g_prS
  clear K_0_43 K_1_43 K_2_43 K_3_43 K_4_43 K_5_43 K_6_43 K_7_43 K_8_43 K_9_43 K_10_43 K_11_43 K_12_43 K_13_43 K_14_43 K_15_43 K_16_43 K_17_43 K_18_43 K_19_43 K_20_43 K_21_43 K_22_43 G_0_2_43 G_0_3_43 G_0_13_43 G_0_14_43 G_0_15_43 G_0_16_43 G_0_17_43 G_0_18_43 G_0_19_43 G_0_20_43 G_0_21_43 G_0_22_43 G_0_23_43 G_0_24_43 G_0_25_43 G_0_26_43 G_0_38_43 G_0_39_43 G_0_40_43 G_0_41_43 G_0_42_43 R_0_43 R_1_43 R_2_43 R_3_43 R_4_43 R_5_43 R_6_43 R_7_43 R_8_43 R_9_43 R_10_43 R_11_43 R_12_43 R_13_43 R_14_43 R_15_43 R_16_43 R_17_43 R_18_43 R_19_43 R_20_43 R_21_43 R_22_43 N_43 T_43 O_43 X_43 e44 σ43
  show RC _ _ _ [some (.ref o), none, none, none] [] σ44 _
  refine c_aload rfl ?_
  refine c_int ?_
  refine c_newa (t := 0) (z := 2) (by decide) (by decide) (mOut_lt (ltL [o] rfl (List.forall_mem_cons.mpr ⟨by omega, (fun _ h => absurd h List.not_mem_nil)⟩)) (ltS [o] rfl (List.forall_mem_cons.mpr ⟨by omega, (fun _ h => absurd h List.not_mem_nil)⟩))) O_44 ?_
  rw [show ((2 : Int32)).toNatClampNeg = 2 by decide]
  obtain ⟨σ45, e45⟩ : ∃ x, x = mNew σ44 20 2 2 := ⟨_, rfl⟩
  rw [← e45, show σ44.2.1.length = o + 23 by omega]
  have N_45 : σ45.2.1.length = o + 24 := by rw [e45, len_new]; omega
  have T_45 : σ45.1 = σ.1 + 8600 := by rw [e45]; show σ44.1 + 2 = _; omega
  have O_45 : rOK σ45 := by rw [e45]; exact rOK_new O_44
  have X_45 : Ex σ σ45 o := by rw [e45]; exact X_44.new (by omega)
  have K_0_45 : σ45.2.1[o]? = some (10, 0) := by rw [e45]; exact k_new K_0_44
  have K_1_45 : σ45.2.1[o + 1]? = some (23, 43) := by rw [e45]; exact k_new K_1_44
  have K_2_45 : σ45.2.1[o + 2]? = some (20, 700) := by rw [e45]; exact k_new K_2_44
  have K_3_45 : σ45.2.1[o + 3]? = some (20, 100) := by rw [e45]; exact k_new K_3_44
  have K_4_45 : σ45.2.1[o + 4]? = some (20, 100) := by rw [e45]; exact k_new K_4_44
  have K_5_45 : σ45.2.1[o + 5]? = some (20, 101) := by rw [e45]; exact k_new K_5_44
  have K_6_45 : σ45.2.1[o + 6]? = some (20, 192) := by rw [e45]; exact k_new K_6_44
  have K_7_45 : σ45.2.1[o + 7]? = some (20, 48) := by rw [e45]; exact k_new K_7_44
  have K_8_45 : σ45.2.1[o + 8]? = some (20, 8) := by rw [e45]; exact k_new K_8_44
  have K_9_45 : σ45.2.1[o + 9]? = some (20, 100) := by rw [e45]; exact k_new K_9_44
  have K_10_45 : σ45.2.1[o + 10]? = some (20, 100) := by rw [e45]; exact k_new K_10_44
  have K_11_45 : σ45.2.1[o + 11]? = some (20, 101) := by rw [e45]; exact k_new K_11_44
  have K_12_45 : σ45.2.1[o + 12]? = some (20, 8) := by rw [e45]; exact k_new K_12_44
  have K_13_45 : σ45.2.1[o + 13]? = some (23, 101) := by rw [e45]; exact k_new K_13_44
  have K_14_45 : σ45.2.1[o + 14]? = some (23, 112) := by rw [e45]; exact k_new K_14_44
  have K_15_45 : σ45.2.1[o + 15]? = some (20, 112) := by rw [e45]; exact k_new K_15_44
  have K_16_45 : σ45.2.1[o + 16]? = some (20, 112) := by rw [e45]; exact k_new K_16_44
  have K_17_45 : σ45.2.1[o + 17]? = some (20, 532) := by rw [e45]; exact k_new K_17_44
  have K_18_45 : σ45.2.1[o + 18]? = some (20, 174) := by rw [e45]; exact k_new K_18_44
  have K_19_45 : σ45.2.1[o + 19]? = some (20, 532) := by rw [e45]; exact k_new K_19_44
  have K_20_45 : σ45.2.1[o + 20]? = some (20, 4256) := by rw [e45]; exact k_new K_20_44
  have K_21_45 : σ45.2.1[o + 21]? = some (20, 1064) := by rw [e45]; exact k_new K_21_44
  have K_22_45 : σ45.2.1[o + 22]? = some (22, 2) := by rw [e45]; exact k_new K_22_44
  have G_0_2_45 : σ45.2.2.1 o 2 = some (o + 1) := by rw [e45]; exact g_new (by omega) G_0_2_44
  have G_0_3_45 : σ45.2.2.1 o 3 = some (o + 2) := by rw [e45]; exact g_new (by omega) G_0_3_44
  have G_0_13_45 : σ45.2.2.1 o 13 = some (o + 3) := by rw [e45]; exact g_new (by omega) G_0_13_44
  have G_0_14_45 : σ45.2.2.1 o 14 = some (o + 4) := by rw [e45]; exact g_new (by omega) G_0_14_44
  have G_0_15_45 : σ45.2.2.1 o 15 = some (o + 5) := by rw [e45]; exact g_new (by omega) G_0_15_44
  have G_0_16_45 : σ45.2.2.1 o 16 = some (o + 6) := by rw [e45]; exact g_new (by omega) G_0_16_44
  have G_0_17_45 : σ45.2.2.1 o 17 = some (o + 7) := by rw [e45]; exact g_new (by omega) G_0_17_44
  have G_0_18_45 : σ45.2.2.1 o 18 = some (o + 8) := by rw [e45]; exact g_new (by omega) G_0_18_44
  have G_0_19_45 : σ45.2.2.1 o 19 = some (o + 9) := by rw [e45]; exact g_new (by omega) G_0_19_44
  have G_0_20_45 : σ45.2.2.1 o 20 = some (o + 10) := by rw [e45]; exact g_new (by omega) G_0_20_44
  have G_0_21_45 : σ45.2.2.1 o 21 = some (o + 11) := by rw [e45]; exact g_new (by omega) G_0_21_44
  have G_0_22_45 : σ45.2.2.1 o 22 = some (o + 12) := by rw [e45]; exact g_new (by omega) G_0_22_44
  have G_0_23_45 : σ45.2.2.1 o 23 = some (o + 13) := by rw [e45]; exact g_new (by omega) G_0_23_44
  have G_0_24_45 : σ45.2.2.1 o 24 = some (o + 14) := by rw [e45]; exact g_new (by omega) G_0_24_44
  have G_0_25_45 : σ45.2.2.1 o 25 = some (o + 15) := by rw [e45]; exact g_new (by omega) G_0_25_44
  have G_0_26_45 : σ45.2.2.1 o 26 = some (o + 16) := by rw [e45]; exact g_new (by omega) G_0_26_44
  have G_0_38_45 : σ45.2.2.1 o 38 = some (o + 17) := by rw [e45]; exact g_new (by omega) G_0_38_44
  have G_0_39_45 : σ45.2.2.1 o 39 = some (o + 18) := by rw [e45]; exact g_new (by omega) G_0_39_44
  have G_0_40_45 : σ45.2.2.1 o 40 = some (o + 19) := by rw [e45]; exact g_new (by omega) G_0_40_44
  have G_0_41_45 : σ45.2.2.1 o 41 = some (o + 20) := by rw [e45]; exact g_new (by omega) G_0_41_44
  have G_0_42_45 : σ45.2.2.1 o 42 = some (o + 21) := by rw [e45]; exact g_new (by omega) G_0_42_44
  have G_0_43_45 : σ45.2.2.1 o 43 = some (o + 22) := by rw [e45]; exact g_new (by omega) G_0_43_44
  have R_0_45 : σ45.2.2.2.1 o = fun _ => 0 := by rw [e45]; exact (mup_ne (by omega)).trans R_0_44
  have R_1_45 : σ45.2.2.2.1 (o + 1) = fun _ => 0 := by rw [e45]; exact (mup_ne (by omega)).trans R_1_44
  have R_2_45 : σ45.2.2.2.1 (o + 2) = fun _ => 0 := by rw [e45]; exact (mup_ne (by omega)).trans R_2_44
  have R_3_45 : σ45.2.2.2.1 (o + 3) = fun _ => 0 := by rw [e45]; exact (mup_ne (by omega)).trans R_3_44
  have R_4_45 : σ45.2.2.2.1 (o + 4) = fun _ => 0 := by rw [e45]; exact (mup_ne (by omega)).trans R_4_44
  have R_5_45 : σ45.2.2.2.1 (o + 5) = fun _ => 0 := by rw [e45]; exact (mup_ne (by omega)).trans R_5_44
  have R_6_45 : σ45.2.2.2.1 (o + 6) = fun _ => 0 := by rw [e45]; exact (mup_ne (by omega)).trans R_6_44
  have R_7_45 : σ45.2.2.2.1 (o + 7) = fun _ => 0 := by rw [e45]; exact (mup_ne (by omega)).trans R_7_44
  have R_8_45 : σ45.2.2.2.1 (o + 8) = fun _ => 0 := by rw [e45]; exact (mup_ne (by omega)).trans R_8_44
  have R_9_45 : σ45.2.2.2.1 (o + 9) = fun _ => 0 := by rw [e45]; exact (mup_ne (by omega)).trans R_9_44
  have R_10_45 : σ45.2.2.2.1 (o + 10) = fun _ => 0 := by rw [e45]; exact (mup_ne (by omega)).trans R_10_44
  have R_11_45 : σ45.2.2.2.1 (o + 11) = fun _ => 0 := by rw [e45]; exact (mup_ne (by omega)).trans R_11_44
  have R_12_45 : σ45.2.2.2.1 (o + 12) = fun _ => 0 := by rw [e45]; exact (mup_ne (by omega)).trans R_12_44
  have R_13_45 : σ45.2.2.2.1 (o + 13) = fun _ => 0 := by rw [e45]; exact (mup_ne (by omega)).trans R_13_44
  have R_14_45 : σ45.2.2.2.1 (o + 14) = fun _ => 0 := by rw [e45]; exact (mup_ne (by omega)).trans R_14_44
  have R_15_45 : σ45.2.2.2.1 (o + 15) = fun _ => 0 := by rw [e45]; exact (mup_ne (by omega)).trans R_15_44
  have R_16_45 : σ45.2.2.2.1 (o + 16) = fun _ => 0 := by rw [e45]; exact (mup_ne (by omega)).trans R_16_44
  have R_17_45 : σ45.2.2.2.1 (o + 17) = fun _ => 0 := by rw [e45]; exact (mup_ne (by omega)).trans R_17_44
  have R_18_45 : σ45.2.2.2.1 (o + 18) = fun _ => 0 := by rw [e45]; exact (mup_ne (by omega)).trans R_18_44
  have R_19_45 : σ45.2.2.2.1 (o + 19) = fun _ => 0 := by rw [e45]; exact (mup_ne (by omega)).trans R_19_44
  have R_20_45 : σ45.2.2.2.1 (o + 20) = fun _ => 0 := by rw [e45]; exact (mup_ne (by omega)).trans R_20_44
  have R_21_45 : σ45.2.2.2.1 (o + 21) = fun _ => 0 := by rw [e45]; exact (mup_ne (by omega)).trans R_21_44
  have R_22_45 : σ45.2.2.2.1 (o + 22) = fun _ => 0 := by rw [e45]; exact (mup_ne (by omega)).trans R_22_44
  have K_23_45 : σ45.2.1[o + 23]? = some (20, 2) := by rw [e45, ← show σ44.2.1.length = o + 23 by omega]; exact k_newS
  have R_23_45 : σ45.2.2.2.1 (o + 23) = fun _ => 0 := by rw [e45, ← show σ44.2.1.length = o + 23 by omega]; exact mup_eq
  clear K_0_44 K_1_44 K_2_44 K_3_44 K_4_44 K_5_44 K_6_44 K_7_44 K_8_44 K_9_44 K_10_44 K_11_44 K_12_44 K_13_44 K_14_44 K_15_44 K_16_44 K_17_44 K_18_44 K_19_44 K_20_44 K_21_44 K_22_44 G_0_2_44 G_0_3_44 G_0_13_44 G_0_14_44 G_0_15_44 G_0_16_44 G_0_17_44 G_0_18_44 G_0_19_44 G_0_20_44 G_0_21_44 G_0_22_44 G_0_23_44 G_0_24_44 G_0_25_44 G_0_26_44 G_0_38_44 G_0_39_44 G_0_40_44 G_0_41_44 G_0_42_44 G_0_43_44 R_0_44 R_1_44 R_2_44 R_3_44 R_4_44 R_5_44 R_6_44 R_7_44 R_8_44 R_9_44 R_10_44 R_11_44 R_12_44 R_13_44 R_14_44 R_15_44 R_16_44 R_17_44 R_18_44 R_19_44 R_20_44 R_21_44 R_22_44 N_44 T_44 O_44 X_44 e45 σ44
  show RC _ _ _ [some (.ref o), none, none, none] [.ref (o + 23), .ref o] σ45 _
  refine c_putr K_0_45 ?_
  obtain ⟨σ46, e46⟩ : ∃ x, x = mPr σ45 o 47 (some (o + 23)) := ⟨_, rfl⟩
  rw [← e46]
  have N_46 : σ46.2.1.length = o + 24 := by rw [e46]; exact N_45
  have T_46 : σ46.1 = σ.1 + 8600 := by rw [e46]; exact T_45
  have O_46 : rOK σ46 := by rw [e46]; exact rOK_pr O_45 (by omega)
  have X_46 : Ex σ σ46 o := by rw [e46]; exact X_45.pr (by omega)
  have K_0_46 : σ46.2.1[o]? = some (10, 0) := by rw [e46]; exact K_0_45
  have K_1_46 : σ46.2.1[o + 1]? = some (23, 43) := by rw [e46]; exact K_1_45
  have K_2_46 : σ46.2.1[o + 2]? = some (20, 700) := by rw [e46]; exact K_2_45
  have K_3_46 : σ46.2.1[o + 3]? = some (20, 100) := by rw [e46]; exact K_3_45
  have K_4_46 : σ46.2.1[o + 4]? = some (20, 100) := by rw [e46]; exact K_4_45
  have K_5_46 : σ46.2.1[o + 5]? = some (20, 101) := by rw [e46]; exact K_5_45
  have K_6_46 : σ46.2.1[o + 6]? = some (20, 192) := by rw [e46]; exact K_6_45
  have K_7_46 : σ46.2.1[o + 7]? = some (20, 48) := by rw [e46]; exact K_7_45
  have K_8_46 : σ46.2.1[o + 8]? = some (20, 8) := by rw [e46]; exact K_8_45
  have K_9_46 : σ46.2.1[o + 9]? = some (20, 100) := by rw [e46]; exact K_9_45
  have K_10_46 : σ46.2.1[o + 10]? = some (20, 100) := by rw [e46]; exact K_10_45
  have K_11_46 : σ46.2.1[o + 11]? = some (20, 101) := by rw [e46]; exact K_11_45
  have K_12_46 : σ46.2.1[o + 12]? = some (20, 8) := by rw [e46]; exact K_12_45
  have K_13_46 : σ46.2.1[o + 13]? = some (23, 101) := by rw [e46]; exact K_13_45
  have K_14_46 : σ46.2.1[o + 14]? = some (23, 112) := by rw [e46]; exact K_14_45
  have K_15_46 : σ46.2.1[o + 15]? = some (20, 112) := by rw [e46]; exact K_15_45
  have K_16_46 : σ46.2.1[o + 16]? = some (20, 112) := by rw [e46]; exact K_16_45
  have K_17_46 : σ46.2.1[o + 17]? = some (20, 532) := by rw [e46]; exact K_17_45
  have K_18_46 : σ46.2.1[o + 18]? = some (20, 174) := by rw [e46]; exact K_18_45
  have K_19_46 : σ46.2.1[o + 19]? = some (20, 532) := by rw [e46]; exact K_19_45
  have K_20_46 : σ46.2.1[o + 20]? = some (20, 4256) := by rw [e46]; exact K_20_45
  have K_21_46 : σ46.2.1[o + 21]? = some (20, 1064) := by rw [e46]; exact K_21_45
  have K_22_46 : σ46.2.1[o + 22]? = some (22, 2) := by rw [e46]; exact K_22_45
  have K_23_46 : σ46.2.1[o + 23]? = some (20, 2) := by rw [e46]; exact K_23_45
  have G_0_2_46 : σ46.2.2.1 o 2 = some (o + 1) := by rw [e46]; exact g_prK (by decide) G_0_2_45
  have G_0_3_46 : σ46.2.2.1 o 3 = some (o + 2) := by rw [e46]; exact g_prK (by decide) G_0_3_45
  have G_0_13_46 : σ46.2.2.1 o 13 = some (o + 3) := by rw [e46]; exact g_prK (by decide) G_0_13_45
  have G_0_14_46 : σ46.2.2.1 o 14 = some (o + 4) := by rw [e46]; exact g_prK (by decide) G_0_14_45
  have G_0_15_46 : σ46.2.2.1 o 15 = some (o + 5) := by rw [e46]; exact g_prK (by decide) G_0_15_45
  have G_0_16_46 : σ46.2.2.1 o 16 = some (o + 6) := by rw [e46]; exact g_prK (by decide) G_0_16_45
  have G_0_17_46 : σ46.2.2.1 o 17 = some (o + 7) := by rw [e46]; exact g_prK (by decide) G_0_17_45
  have G_0_18_46 : σ46.2.2.1 o 18 = some (o + 8) := by rw [e46]; exact g_prK (by decide) G_0_18_45
  have G_0_19_46 : σ46.2.2.1 o 19 = some (o + 9) := by rw [e46]; exact g_prK (by decide) G_0_19_45
  have G_0_20_46 : σ46.2.2.1 o 20 = some (o + 10) := by rw [e46]; exact g_prK (by decide) G_0_20_45
  have G_0_21_46 : σ46.2.2.1 o 21 = some (o + 11) := by rw [e46]; exact g_prK (by decide) G_0_21_45
  have G_0_22_46 : σ46.2.2.1 o 22 = some (o + 12) := by rw [e46]; exact g_prK (by decide) G_0_22_45
  have G_0_23_46 : σ46.2.2.1 o 23 = some (o + 13) := by rw [e46]; exact g_prK (by decide) G_0_23_45
  have G_0_24_46 : σ46.2.2.1 o 24 = some (o + 14) := by rw [e46]; exact g_prK (by decide) G_0_24_45
  have G_0_25_46 : σ46.2.2.1 o 25 = some (o + 15) := by rw [e46]; exact g_prK (by decide) G_0_25_45
  have G_0_26_46 : σ46.2.2.1 o 26 = some (o + 16) := by rw [e46]; exact g_prK (by decide) G_0_26_45
  have G_0_38_46 : σ46.2.2.1 o 38 = some (o + 17) := by rw [e46]; exact g_prK (by decide) G_0_38_45
  have G_0_39_46 : σ46.2.2.1 o 39 = some (o + 18) := by rw [e46]; exact g_prK (by decide) G_0_39_45
  have G_0_40_46 : σ46.2.2.1 o 40 = some (o + 19) := by rw [e46]; exact g_prK (by decide) G_0_40_45
  have G_0_41_46 : σ46.2.2.1 o 41 = some (o + 20) := by rw [e46]; exact g_prK (by decide) G_0_41_45
  have G_0_42_46 : σ46.2.2.1 o 42 = some (o + 21) := by rw [e46]; exact g_prK (by decide) G_0_42_45
  have G_0_43_46 : σ46.2.2.1 o 43 = some (o + 22) := by rw [e46]; exact g_prK (by decide) G_0_43_45
  have R_0_46 : σ46.2.2.2.1 o = fun _ => 0 := by rw [e46]; exact R_0_45
  have R_1_46 : σ46.2.2.2.1 (o + 1) = fun _ => 0 := by rw [e46]; exact R_1_45
  have R_2_46 : σ46.2.2.2.1 (o + 2) = fun _ => 0 := by rw [e46]; exact R_2_45
  have R_3_46 : σ46.2.2.2.1 (o + 3) = fun _ => 0 := by rw [e46]; exact R_3_45
  have R_4_46 : σ46.2.2.2.1 (o + 4) = fun _ => 0 := by rw [e46]; exact R_4_45
  have R_5_46 : σ46.2.2.2.1 (o + 5) = fun _ => 0 := by rw [e46]; exact R_5_45
  have R_6_46 : σ46.2.2.2.1 (o + 6) = fun _ => 0 := by rw [e46]; exact R_6_45
  have R_7_46 : σ46.2.2.2.1 (o + 7) = fun _ => 0 := by rw [e46]; exact R_7_45
  have R_8_46 : σ46.2.2.2.1 (o + 8) = fun _ => 0 := by rw [e46]; exact R_8_45
  have R_9_46 : σ46.2.2.2.1 (o + 9) = fun _ => 0 := by rw [e46]; exact R_9_45
  have R_10_46 : σ46.2.2.2.1 (o + 10) = fun _ => 0 := by rw [e46]; exact R_10_45
  have R_11_46 : σ46.2.2.2.1 (o + 11) = fun _ => 0 := by rw [e46]; exact R_11_45
  have R_12_46 : σ46.2.2.2.1 (o + 12) = fun _ => 0 := by rw [e46]; exact R_12_45
  have R_13_46 : σ46.2.2.2.1 (o + 13) = fun _ => 0 := by rw [e46]; exact R_13_45
  have R_14_46 : σ46.2.2.2.1 (o + 14) = fun _ => 0 := by rw [e46]; exact R_14_45
  have R_15_46 : σ46.2.2.2.1 (o + 15) = fun _ => 0 := by rw [e46]; exact R_15_45
  have R_16_46 : σ46.2.2.2.1 (o + 16) = fun _ => 0 := by rw [e46]; exact R_16_45
  have R_17_46 : σ46.2.2.2.1 (o + 17) = fun _ => 0 := by rw [e46]; exact R_17_45
  have R_18_46 : σ46.2.2.2.1 (o + 18) = fun _ => 0 := by rw [e46]; exact R_18_45
  have R_19_46 : σ46.2.2.2.1 (o + 19) = fun _ => 0 := by rw [e46]; exact R_19_45
  have R_20_46 : σ46.2.2.2.1 (o + 20) = fun _ => 0 := by rw [e46]; exact R_20_45
  have R_21_46 : σ46.2.2.2.1 (o + 21) = fun _ => 0 := by rw [e46]; exact R_21_45
  have R_22_46 : σ46.2.2.2.1 (o + 22) = fun _ => 0 := by rw [e46]; exact R_22_45
  have R_23_46 : σ46.2.2.2.1 (o + 23) = fun _ => 0 := by rw [e46]; exact R_23_45
  have G_0_47_46 : σ46.2.2.1 o 47 = some (o + 23) := by rw [e46]; exact g_prS
  clear K_0_45 K_1_45 K_2_45 K_3_45 K_4_45 K_5_45 K_6_45 K_7_45 K_8_45 K_9_45 K_10_45 K_11_45 K_12_45 K_13_45 K_14_45 K_15_45 K_16_45 K_17_45 K_18_45 K_19_45 K_20_45 K_21_45 K_22_45 K_23_45 G_0_2_45 G_0_3_45 G_0_13_45 G_0_14_45 G_0_15_45 G_0_16_45 G_0_17_45 G_0_18_45 G_0_19_45 G_0_20_45 G_0_21_45 G_0_22_45 G_0_23_45 G_0_24_45 G_0_25_45 G_0_26_45 G_0_38_45 G_0_39_45 G_0_40_45 G_0_41_45 G_0_42_45 G_0_43_45 R_0_45 R_1_45 R_2_45 R_3_45 R_4_45 R_5_45 R_6_45 R_7_45 R_8_45 R_9_45 R_10_45 R_11_45 R_12_45 R_13_45 R_14_45 R_15_45 R_16_45 R_17_45 R_18_45 R_19_45 R_20_45 R_21_45 R_22_45 R_23_45 N_45 T_45 O_45 X_45 e46 σ45
  show RC _ _ _ [some (.ref o), none, none, none] [] σ46 _
  refine c_aload rfl ?_
  refine c_int ?_
  refine c_newa (t := 2) (z := 101) (by decide) (by decide) (mOut_lt (ltL [o] rfl (List.forall_mem_cons.mpr ⟨by omega, (fun _ h => absurd h List.not_mem_nil)⟩)) (ltS [o] rfl (List.forall_mem_cons.mpr ⟨by omega, (fun _ h => absurd h List.not_mem_nil)⟩))) O_46 ?_
  rw [show ((101 : Int32)).toNatClampNeg = 101 by decide]
  obtain ⟨σ47, e47⟩ : ∃ x, x = mNew σ46 22 101 101 := ⟨_, rfl⟩
  rw [← e47, show σ46.2.1.length = o + 24 by omega]
  have N_47 : σ47.2.1.length = o + 25 := by rw [e47, len_new]; omega
  have T_47 : σ47.1 = σ.1 + 8701 := by rw [e47]; show σ46.1 + 101 = _; omega
  have O_47 : rOK σ47 := by rw [e47]; exact rOK_new O_46
  have X_47 : Ex σ σ47 o := by rw [e47]; exact X_46.new (by omega)
  have K_0_47 : σ47.2.1[o]? = some (10, 0) := by rw [e47]; exact k_new K_0_46
  have K_1_47 : σ47.2.1[o + 1]? = some (23, 43) := by rw [e47]; exact k_new K_1_46
  have K_2_47 : σ47.2.1[o + 2]? = some (20, 700) := by rw [e47]; exact k_new K_2_46
  have K_3_47 : σ47.2.1[o + 3]? = some (20, 100) := by rw [e47]; exact k_new K_3_46
  have K_4_47 : σ47.2.1[o + 4]? = some (20, 100) := by rw [e47]; exact k_new K_4_46
  have K_5_47 : σ47.2.1[o + 5]? = some (20, 101) := by rw [e47]; exact k_new K_5_46
  have K_6_47 : σ47.2.1[o + 6]? = some (20, 192) := by rw [e47]; exact k_new K_6_46
  have K_7_47 : σ47.2.1[o + 7]? = some (20, 48) := by rw [e47]; exact k_new K_7_46
  have K_8_47 : σ47.2.1[o + 8]? = some (20, 8) := by rw [e47]; exact k_new K_8_46
  have K_9_47 : σ47.2.1[o + 9]? = some (20, 100) := by rw [e47]; exact k_new K_9_46
  have K_10_47 : σ47.2.1[o + 10]? = some (20, 100) := by rw [e47]; exact k_new K_10_46
  have K_11_47 : σ47.2.1[o + 11]? = some (20, 101) := by rw [e47]; exact k_new K_11_46
  have K_12_47 : σ47.2.1[o + 12]? = some (20, 8) := by rw [e47]; exact k_new K_12_46
  have K_13_47 : σ47.2.1[o + 13]? = some (23, 101) := by rw [e47]; exact k_new K_13_46
  have K_14_47 : σ47.2.1[o + 14]? = some (23, 112) := by rw [e47]; exact k_new K_14_46
  have K_15_47 : σ47.2.1[o + 15]? = some (20, 112) := by rw [e47]; exact k_new K_15_46
  have K_16_47 : σ47.2.1[o + 16]? = some (20, 112) := by rw [e47]; exact k_new K_16_46
  have K_17_47 : σ47.2.1[o + 17]? = some (20, 532) := by rw [e47]; exact k_new K_17_46
  have K_18_47 : σ47.2.1[o + 18]? = some (20, 174) := by rw [e47]; exact k_new K_18_46
  have K_19_47 : σ47.2.1[o + 19]? = some (20, 532) := by rw [e47]; exact k_new K_19_46
  have K_20_47 : σ47.2.1[o + 20]? = some (20, 4256) := by rw [e47]; exact k_new K_20_46
  have K_21_47 : σ47.2.1[o + 21]? = some (20, 1064) := by rw [e47]; exact k_new K_21_46
  have K_22_47 : σ47.2.1[o + 22]? = some (22, 2) := by rw [e47]; exact k_new K_22_46
  have K_23_47 : σ47.2.1[o + 23]? = some (20, 2) := by rw [e47]; exact k_new K_23_46
  have G_0_2_47 : σ47.2.2.1 o 2 = some (o + 1) := by rw [e47]; exact g_new (by omega) G_0_2_46
  have G_0_3_47 : σ47.2.2.1 o 3 = some (o + 2) := by rw [e47]; exact g_new (by omega) G_0_3_46
  have G_0_13_47 : σ47.2.2.1 o 13 = some (o + 3) := by rw [e47]; exact g_new (by omega) G_0_13_46
  have G_0_14_47 : σ47.2.2.1 o 14 = some (o + 4) := by rw [e47]; exact g_new (by omega) G_0_14_46
  have G_0_15_47 : σ47.2.2.1 o 15 = some (o + 5) := by rw [e47]; exact g_new (by omega) G_0_15_46
  have G_0_16_47 : σ47.2.2.1 o 16 = some (o + 6) := by rw [e47]; exact g_new (by omega) G_0_16_46
  have G_0_17_47 : σ47.2.2.1 o 17 = some (o + 7) := by rw [e47]; exact g_new (by omega) G_0_17_46
  have G_0_18_47 : σ47.2.2.1 o 18 = some (o + 8) := by rw [e47]; exact g_new (by omega) G_0_18_46
  have G_0_19_47 : σ47.2.2.1 o 19 = some (o + 9) := by rw [e47]; exact g_new (by omega) G_0_19_46
  have G_0_20_47 : σ47.2.2.1 o 20 = some (o + 10) := by rw [e47]; exact g_new (by omega) G_0_20_46
  have G_0_21_47 : σ47.2.2.1 o 21 = some (o + 11) := by rw [e47]; exact g_new (by omega) G_0_21_46
  have G_0_22_47 : σ47.2.2.1 o 22 = some (o + 12) := by rw [e47]; exact g_new (by omega) G_0_22_46
  have G_0_23_47 : σ47.2.2.1 o 23 = some (o + 13) := by rw [e47]; exact g_new (by omega) G_0_23_46
  have G_0_24_47 : σ47.2.2.1 o 24 = some (o + 14) := by rw [e47]; exact g_new (by omega) G_0_24_46
  have G_0_25_47 : σ47.2.2.1 o 25 = some (o + 15) := by rw [e47]; exact g_new (by omega) G_0_25_46
  have G_0_26_47 : σ47.2.2.1 o 26 = some (o + 16) := by rw [e47]; exact g_new (by omega) G_0_26_46
  have G_0_38_47 : σ47.2.2.1 o 38 = some (o + 17) := by rw [e47]; exact g_new (by omega) G_0_38_46
  have G_0_39_47 : σ47.2.2.1 o 39 = some (o + 18) := by rw [e47]; exact g_new (by omega) G_0_39_46
  have G_0_40_47 : σ47.2.2.1 o 40 = some (o + 19) := by rw [e47]; exact g_new (by omega) G_0_40_46
  have G_0_41_47 : σ47.2.2.1 o 41 = some (o + 20) := by rw [e47]; exact g_new (by omega) G_0_41_46
  have G_0_42_47 : σ47.2.2.1 o 42 = some (o + 21) := by rw [e47]; exact g_new (by omega) G_0_42_46
  have G_0_43_47 : σ47.2.2.1 o 43 = some (o + 22) := by rw [e47]; exact g_new (by omega) G_0_43_46
  have G_0_47_47 : σ47.2.2.1 o 47 = some (o + 23) := by rw [e47]; exact g_new (by omega) G_0_47_46
  have R_0_47 : σ47.2.2.2.1 o = fun _ => 0 := by rw [e47]; exact (mup_ne (by omega)).trans R_0_46
  have R_1_47 : σ47.2.2.2.1 (o + 1) = fun _ => 0 := by rw [e47]; exact (mup_ne (by omega)).trans R_1_46
  have R_2_47 : σ47.2.2.2.1 (o + 2) = fun _ => 0 := by rw [e47]; exact (mup_ne (by omega)).trans R_2_46
  have R_3_47 : σ47.2.2.2.1 (o + 3) = fun _ => 0 := by rw [e47]; exact (mup_ne (by omega)).trans R_3_46
  have R_4_47 : σ47.2.2.2.1 (o + 4) = fun _ => 0 := by rw [e47]; exact (mup_ne (by omega)).trans R_4_46
  have R_5_47 : σ47.2.2.2.1 (o + 5) = fun _ => 0 := by rw [e47]; exact (mup_ne (by omega)).trans R_5_46
  have R_6_47 : σ47.2.2.2.1 (o + 6) = fun _ => 0 := by rw [e47]; exact (mup_ne (by omega)).trans R_6_46
  have R_7_47 : σ47.2.2.2.1 (o + 7) = fun _ => 0 := by rw [e47]; exact (mup_ne (by omega)).trans R_7_46
  have R_8_47 : σ47.2.2.2.1 (o + 8) = fun _ => 0 := by rw [e47]; exact (mup_ne (by omega)).trans R_8_46
  have R_9_47 : σ47.2.2.2.1 (o + 9) = fun _ => 0 := by rw [e47]; exact (mup_ne (by omega)).trans R_9_46
  have R_10_47 : σ47.2.2.2.1 (o + 10) = fun _ => 0 := by rw [e47]; exact (mup_ne (by omega)).trans R_10_46
  have R_11_47 : σ47.2.2.2.1 (o + 11) = fun _ => 0 := by rw [e47]; exact (mup_ne (by omega)).trans R_11_46
  have R_12_47 : σ47.2.2.2.1 (o + 12) = fun _ => 0 := by rw [e47]; exact (mup_ne (by omega)).trans R_12_46
  have R_13_47 : σ47.2.2.2.1 (o + 13) = fun _ => 0 := by rw [e47]; exact (mup_ne (by omega)).trans R_13_46
  have R_14_47 : σ47.2.2.2.1 (o + 14) = fun _ => 0 := by rw [e47]; exact (mup_ne (by omega)).trans R_14_46
  have R_15_47 : σ47.2.2.2.1 (o + 15) = fun _ => 0 := by rw [e47]; exact (mup_ne (by omega)).trans R_15_46
  have R_16_47 : σ47.2.2.2.1 (o + 16) = fun _ => 0 := by rw [e47]; exact (mup_ne (by omega)).trans R_16_46
  have R_17_47 : σ47.2.2.2.1 (o + 17) = fun _ => 0 := by rw [e47]; exact (mup_ne (by omega)).trans R_17_46
  have R_18_47 : σ47.2.2.2.1 (o + 18) = fun _ => 0 := by rw [e47]; exact (mup_ne (by omega)).trans R_18_46
  have R_19_47 : σ47.2.2.2.1 (o + 19) = fun _ => 0 := by rw [e47]; exact (mup_ne (by omega)).trans R_19_46
  have R_20_47 : σ47.2.2.2.1 (o + 20) = fun _ => 0 := by rw [e47]; exact (mup_ne (by omega)).trans R_20_46
  have R_21_47 : σ47.2.2.2.1 (o + 21) = fun _ => 0 := by rw [e47]; exact (mup_ne (by omega)).trans R_21_46
  have R_22_47 : σ47.2.2.2.1 (o + 22) = fun _ => 0 := by rw [e47]; exact (mup_ne (by omega)).trans R_22_46
  have R_23_47 : σ47.2.2.2.1 (o + 23) = fun _ => 0 := by rw [e47]; exact (mup_ne (by omega)).trans R_23_46
  have K_24_47 : σ47.2.1[o + 24]? = some (22, 101) := by rw [e47, ← show σ46.2.1.length = o + 24 by omega]; exact k_newS
  have R_24_47 : σ47.2.2.2.1 (o + 24) = fun _ => 0 := by rw [e47, ← show σ46.2.1.length = o + 24 by omega]; exact mup_eq
  clear K_0_46 K_1_46 K_2_46 K_3_46 K_4_46 K_5_46 K_6_46 K_7_46 K_8_46 K_9_46 K_10_46 K_11_46 K_12_46 K_13_46 K_14_46 K_15_46 K_16_46 K_17_46 K_18_46 K_19_46 K_20_46 K_21_46 K_22_46 K_23_46 G_0_2_46 G_0_3_46 G_0_13_46 G_0_14_46 G_0_15_46 G_0_16_46 G_0_17_46 G_0_18_46 G_0_19_46 G_0_20_46 G_0_21_46 G_0_22_46 G_0_23_46 G_0_24_46 G_0_25_46 G_0_26_46 G_0_38_46 G_0_39_46 G_0_40_46 G_0_41_46 G_0_42_46 G_0_43_46 G_0_47_46 R_0_46 R_1_46 R_2_46 R_3_46 R_4_46 R_5_46 R_6_46 R_7_46 R_8_46 R_9_46 R_10_46 R_11_46 R_12_46 R_13_46 R_14_46 R_15_46 R_16_46 R_17_46 R_18_46 R_19_46 R_20_46 R_21_46 R_22_46 R_23_46 N_46 T_46 O_46 X_46 e47 σ46
  show RC _ _ _ [some (.ref o), none, none, none] [.ref (o + 24), .ref o] σ47 _
  refine c_putr K_0_47 ?_
  obtain ⟨σ48, e48⟩ : ∃ x, x = mPr σ47 o 48 (some (o + 24)) := ⟨_, rfl⟩
  rw [← e48]
  have N_48 : σ48.2.1.length = o + 25 := by rw [e48]; exact N_47
  have T_48 : σ48.1 = σ.1 + 8701 := by rw [e48]; exact T_47
  have O_48 : rOK σ48 := by rw [e48]; exact rOK_pr O_47 (by omega)
  have X_48 : Ex σ σ48 o := by rw [e48]; exact X_47.pr (by omega)
  have K_0_48 : σ48.2.1[o]? = some (10, 0) := by rw [e48]; exact K_0_47
  have K_1_48 : σ48.2.1[o + 1]? = some (23, 43) := by rw [e48]; exact K_1_47
  have K_2_48 : σ48.2.1[o + 2]? = some (20, 700) := by rw [e48]; exact K_2_47
  have K_3_48 : σ48.2.1[o + 3]? = some (20, 100) := by rw [e48]; exact K_3_47
  have K_4_48 : σ48.2.1[o + 4]? = some (20, 100) := by rw [e48]; exact K_4_47
  have K_5_48 : σ48.2.1[o + 5]? = some (20, 101) := by rw [e48]; exact K_5_47
  have K_6_48 : σ48.2.1[o + 6]? = some (20, 192) := by rw [e48]; exact K_6_47
  have K_7_48 : σ48.2.1[o + 7]? = some (20, 48) := by rw [e48]; exact K_7_47
  have K_8_48 : σ48.2.1[o + 8]? = some (20, 8) := by rw [e48]; exact K_8_47
  have K_9_48 : σ48.2.1[o + 9]? = some (20, 100) := by rw [e48]; exact K_9_47
  have K_10_48 : σ48.2.1[o + 10]? = some (20, 100) := by rw [e48]; exact K_10_47
  have K_11_48 : σ48.2.1[o + 11]? = some (20, 101) := by rw [e48]; exact K_11_47
  have K_12_48 : σ48.2.1[o + 12]? = some (20, 8) := by rw [e48]; exact K_12_47
  have K_13_48 : σ48.2.1[o + 13]? = some (23, 101) := by rw [e48]; exact K_13_47
  have K_14_48 : σ48.2.1[o + 14]? = some (23, 112) := by rw [e48]; exact K_14_47
  have K_15_48 : σ48.2.1[o + 15]? = some (20, 112) := by rw [e48]; exact K_15_47
  have K_16_48 : σ48.2.1[o + 16]? = some (20, 112) := by rw [e48]; exact K_16_47
  have K_17_48 : σ48.2.1[o + 17]? = some (20, 532) := by rw [e48]; exact K_17_47
  have K_18_48 : σ48.2.1[o + 18]? = some (20, 174) := by rw [e48]; exact K_18_47
  have K_19_48 : σ48.2.1[o + 19]? = some (20, 532) := by rw [e48]; exact K_19_47
  have K_20_48 : σ48.2.1[o + 20]? = some (20, 4256) := by rw [e48]; exact K_20_47
  have K_21_48 : σ48.2.1[o + 21]? = some (20, 1064) := by rw [e48]; exact K_21_47
  have K_22_48 : σ48.2.1[o + 22]? = some (22, 2) := by rw [e48]; exact K_22_47
  have K_23_48 : σ48.2.1[o + 23]? = some (20, 2) := by rw [e48]; exact K_23_47
  have K_24_48 : σ48.2.1[o + 24]? = some (22, 101) := by rw [e48]; exact K_24_47
  have G_0_2_48 : σ48.2.2.1 o 2 = some (o + 1) := by rw [e48]; exact g_prK (by decide) G_0_2_47
  have G_0_3_48 : σ48.2.2.1 o 3 = some (o + 2) := by rw [e48]; exact g_prK (by decide) G_0_3_47
  have G_0_13_48 : σ48.2.2.1 o 13 = some (o + 3) := by rw [e48]; exact g_prK (by decide) G_0_13_47
  have G_0_14_48 : σ48.2.2.1 o 14 = some (o + 4) := by rw [e48]; exact g_prK (by decide) G_0_14_47
  have G_0_15_48 : σ48.2.2.1 o 15 = some (o + 5) := by rw [e48]; exact g_prK (by decide) G_0_15_47
  have G_0_16_48 : σ48.2.2.1 o 16 = some (o + 6) := by rw [e48]; exact g_prK (by decide) G_0_16_47
  have G_0_17_48 : σ48.2.2.1 o 17 = some (o + 7) := by rw [e48]; exact g_prK (by decide) G_0_17_47
  have G_0_18_48 : σ48.2.2.1 o 18 = some (o + 8) := by rw [e48]; exact g_prK (by decide) G_0_18_47
  have G_0_19_48 : σ48.2.2.1 o 19 = some (o + 9) := by rw [e48]; exact g_prK (by decide) G_0_19_47
  have G_0_20_48 : σ48.2.2.1 o 20 = some (o + 10) := by rw [e48]; exact g_prK (by decide) G_0_20_47
  have G_0_21_48 : σ48.2.2.1 o 21 = some (o + 11) := by rw [e48]; exact g_prK (by decide) G_0_21_47
  have G_0_22_48 : σ48.2.2.1 o 22 = some (o + 12) := by rw [e48]; exact g_prK (by decide) G_0_22_47
  have G_0_23_48 : σ48.2.2.1 o 23 = some (o + 13) := by rw [e48]; exact g_prK (by decide) G_0_23_47
  have G_0_24_48 : σ48.2.2.1 o 24 = some (o + 14) := by rw [e48]; exact g_prK (by decide) G_0_24_47
  have G_0_25_48 : σ48.2.2.1 o 25 = some (o + 15) := by rw [e48]; exact g_prK (by decide) G_0_25_47
  have G_0_26_48 : σ48.2.2.1 o 26 = some (o + 16) := by rw [e48]; exact g_prK (by decide) G_0_26_47
  have G_0_38_48 : σ48.2.2.1 o 38 = some (o + 17) := by rw [e48]; exact g_prK (by decide) G_0_38_47
  have G_0_39_48 : σ48.2.2.1 o 39 = some (o + 18) := by rw [e48]; exact g_prK (by decide) G_0_39_47
  have G_0_40_48 : σ48.2.2.1 o 40 = some (o + 19) := by rw [e48]; exact g_prK (by decide) G_0_40_47
  have G_0_41_48 : σ48.2.2.1 o 41 = some (o + 20) := by rw [e48]; exact g_prK (by decide) G_0_41_47
  have G_0_42_48 : σ48.2.2.1 o 42 = some (o + 21) := by rw [e48]; exact g_prK (by decide) G_0_42_47
  have G_0_43_48 : σ48.2.2.1 o 43 = some (o + 22) := by rw [e48]; exact g_prK (by decide) G_0_43_47
  have G_0_47_48 : σ48.2.2.1 o 47 = some (o + 23) := by rw [e48]; exact g_prK (by decide) G_0_47_47
  have R_0_48 : σ48.2.2.2.1 o = fun _ => 0 := by rw [e48]; exact R_0_47
  have R_1_48 : σ48.2.2.2.1 (o + 1) = fun _ => 0 := by rw [e48]; exact R_1_47
  have R_2_48 : σ48.2.2.2.1 (o + 2) = fun _ => 0 := by rw [e48]; exact R_2_47
  have R_3_48 : σ48.2.2.2.1 (o + 3) = fun _ => 0 := by rw [e48]; exact R_3_47
  have R_4_48 : σ48.2.2.2.1 (o + 4) = fun _ => 0 := by rw [e48]; exact R_4_47
  have R_5_48 : σ48.2.2.2.1 (o + 5) = fun _ => 0 := by rw [e48]; exact R_5_47
  have R_6_48 : σ48.2.2.2.1 (o + 6) = fun _ => 0 := by rw [e48]; exact R_6_47
  have R_7_48 : σ48.2.2.2.1 (o + 7) = fun _ => 0 := by rw [e48]; exact R_7_47
  have R_8_48 : σ48.2.2.2.1 (o + 8) = fun _ => 0 := by rw [e48]; exact R_8_47
  have R_9_48 : σ48.2.2.2.1 (o + 9) = fun _ => 0 := by rw [e48]; exact R_9_47
  have R_10_48 : σ48.2.2.2.1 (o + 10) = fun _ => 0 := by rw [e48]; exact R_10_47
  have R_11_48 : σ48.2.2.2.1 (o + 11) = fun _ => 0 := by rw [e48]; exact R_11_47
  have R_12_48 : σ48.2.2.2.1 (o + 12) = fun _ => 0 := by rw [e48]; exact R_12_47
  have R_13_48 : σ48.2.2.2.1 (o + 13) = fun _ => 0 := by rw [e48]; exact R_13_47
  have R_14_48 : σ48.2.2.2.1 (o + 14) = fun _ => 0 := by rw [e48]; exact R_14_47
  have R_15_48 : σ48.2.2.2.1 (o + 15) = fun _ => 0 := by rw [e48]; exact R_15_47
  have R_16_48 : σ48.2.2.2.1 (o + 16) = fun _ => 0 := by rw [e48]; exact R_16_47
  have R_17_48 : σ48.2.2.2.1 (o + 17) = fun _ => 0 := by rw [e48]; exact R_17_47
  have R_18_48 : σ48.2.2.2.1 (o + 18) = fun _ => 0 := by rw [e48]; exact R_18_47
  have R_19_48 : σ48.2.2.2.1 (o + 19) = fun _ => 0 := by rw [e48]; exact R_19_47
  have R_20_48 : σ48.2.2.2.1 (o + 20) = fun _ => 0 := by rw [e48]; exact R_20_47
  have R_21_48 : σ48.2.2.2.1 (o + 21) = fun _ => 0 := by rw [e48]; exact R_21_47
  have R_22_48 : σ48.2.2.2.1 (o + 22) = fun _ => 0 := by rw [e48]; exact R_22_47
  have R_23_48 : σ48.2.2.2.1 (o + 23) = fun _ => 0 := by rw [e48]; exact R_23_47
  have R_24_48 : σ48.2.2.2.1 (o + 24) = fun _ => 0 := by rw [e48]; exact R_24_47
  have G_0_48_48 : σ48.2.2.1 o 48 = some (o + 24) := by rw [e48]; exact g_prS
  clear K_0_47 K_1_47 K_2_47 K_3_47 K_4_47 K_5_47 K_6_47 K_7_47 K_8_47 K_9_47 K_10_47 K_11_47 K_12_47 K_13_47 K_14_47 K_15_47 K_16_47 K_17_47 K_18_47 K_19_47 K_20_47 K_21_47 K_22_47 K_23_47 K_24_47 G_0_2_47 G_0_3_47 G_0_13_47 G_0_14_47 G_0_15_47 G_0_16_47 G_0_17_47 G_0_18_47 G_0_19_47 G_0_20_47 G_0_21_47 G_0_22_47 G_0_23_47 G_0_24_47 G_0_25_47 G_0_26_47 G_0_38_47 G_0_39_47 G_0_40_47 G_0_41_47 G_0_42_47 G_0_43_47 G_0_47_47 R_0_47 R_1_47 R_2_47 R_3_47 R_4_47 R_5_47 R_6_47 R_7_47 R_8_47 R_9_47 R_10_47 R_11_47 R_12_47 R_13_47 R_14_47 R_15_47 R_16_47 R_17_47 R_18_47 R_19_47 R_20_47 R_21_47 R_22_47 R_23_47 R_24_47 N_47 T_47 O_47 X_47 e48 σ47
  show RC _ _ _ [some (.ref o), none, none, none] [] σ48 _
  refine c_aload rfl ?_
  refine c_int ?_
  refine c_newa (t := 2) (z := 100) (by decide) (by decide) (mOut_lt (ltL [o] rfl (List.forall_mem_cons.mpr ⟨by omega, (fun _ h => absurd h List.not_mem_nil)⟩)) (ltS [o] rfl (List.forall_mem_cons.mpr ⟨by omega, (fun _ h => absurd h List.not_mem_nil)⟩))) O_48 ?_
  rw [show ((100 : Int32)).toNatClampNeg = 100 by decide]
  obtain ⟨σ49, e49⟩ : ∃ x, x = mNew σ48 22 100 100 := ⟨_, rfl⟩
  rw [← e49, show σ48.2.1.length = o + 25 by omega]
  have N_49 : σ49.2.1.length = o + 26 := by rw [e49, len_new]; omega
  have T_49 : σ49.1 = σ.1 + 8801 := by rw [e49]; show σ48.1 + 100 = _; omega
  have O_49 : rOK σ49 := by rw [e49]; exact rOK_new O_48
  have X_49 : Ex σ σ49 o := by rw [e49]; exact X_48.new (by omega)
  have K_0_49 : σ49.2.1[o]? = some (10, 0) := by rw [e49]; exact k_new K_0_48
  have K_1_49 : σ49.2.1[o + 1]? = some (23, 43) := by rw [e49]; exact k_new K_1_48
  have K_2_49 : σ49.2.1[o + 2]? = some (20, 700) := by rw [e49]; exact k_new K_2_48
  have K_3_49 : σ49.2.1[o + 3]? = some (20, 100) := by rw [e49]; exact k_new K_3_48
  have K_4_49 : σ49.2.1[o + 4]? = some (20, 100) := by rw [e49]; exact k_new K_4_48
  have K_5_49 : σ49.2.1[o + 5]? = some (20, 101) := by rw [e49]; exact k_new K_5_48
  have K_6_49 : σ49.2.1[o + 6]? = some (20, 192) := by rw [e49]; exact k_new K_6_48
  have K_7_49 : σ49.2.1[o + 7]? = some (20, 48) := by rw [e49]; exact k_new K_7_48
  have K_8_49 : σ49.2.1[o + 8]? = some (20, 8) := by rw [e49]; exact k_new K_8_48
  have K_9_49 : σ49.2.1[o + 9]? = some (20, 100) := by rw [e49]; exact k_new K_9_48
  have K_10_49 : σ49.2.1[o + 10]? = some (20, 100) := by rw [e49]; exact k_new K_10_48
  have K_11_49 : σ49.2.1[o + 11]? = some (20, 101) := by rw [e49]; exact k_new K_11_48
  have K_12_49 : σ49.2.1[o + 12]? = some (20, 8) := by rw [e49]; exact k_new K_12_48
  have K_13_49 : σ49.2.1[o + 13]? = some (23, 101) := by rw [e49]; exact k_new K_13_48
  have K_14_49 : σ49.2.1[o + 14]? = some (23, 112) := by rw [e49]; exact k_new K_14_48
  have K_15_49 : σ49.2.1[o + 15]? = some (20, 112) := by rw [e49]; exact k_new K_15_48
  have K_16_49 : σ49.2.1[o + 16]? = some (20, 112) := by rw [e49]; exact k_new K_16_48
  have K_17_49 : σ49.2.1[o + 17]? = some (20, 532) := by rw [e49]; exact k_new K_17_48
  have K_18_49 : σ49.2.1[o + 18]? = some (20, 174) := by rw [e49]; exact k_new K_18_48
  have K_19_49 : σ49.2.1[o + 19]? = some (20, 532) := by rw [e49]; exact k_new K_19_48
  have K_20_49 : σ49.2.1[o + 20]? = some (20, 4256) := by rw [e49]; exact k_new K_20_48
  have K_21_49 : σ49.2.1[o + 21]? = some (20, 1064) := by rw [e49]; exact k_new K_21_48
  have K_22_49 : σ49.2.1[o + 22]? = some (22, 2) := by rw [e49]; exact k_new K_22_48
  have K_23_49 : σ49.2.1[o + 23]? = some (20, 2) := by rw [e49]; exact k_new K_23_48
  have K_24_49 : σ49.2.1[o + 24]? = some (22, 101) := by rw [e49]; exact k_new K_24_48
  have G_0_2_49 : σ49.2.2.1 o 2 = some (o + 1) := by rw [e49]; exact g_new (by omega) G_0_2_48
  have G_0_3_49 : σ49.2.2.1 o 3 = some (o + 2) := by rw [e49]; exact g_new (by omega) G_0_3_48
  have G_0_13_49 : σ49.2.2.1 o 13 = some (o + 3) := by rw [e49]; exact g_new (by omega) G_0_13_48
  have G_0_14_49 : σ49.2.2.1 o 14 = some (o + 4) := by rw [e49]; exact g_new (by omega) G_0_14_48
  have G_0_15_49 : σ49.2.2.1 o 15 = some (o + 5) := by rw [e49]; exact g_new (by omega) G_0_15_48
  have G_0_16_49 : σ49.2.2.1 o 16 = some (o + 6) := by rw [e49]; exact g_new (by omega) G_0_16_48
  have G_0_17_49 : σ49.2.2.1 o 17 = some (o + 7) := by rw [e49]; exact g_new (by omega) G_0_17_48
  have G_0_18_49 : σ49.2.2.1 o 18 = some (o + 8) := by rw [e49]; exact g_new (by omega) G_0_18_48
  have G_0_19_49 : σ49.2.2.1 o 19 = some (o + 9) := by rw [e49]; exact g_new (by omega) G_0_19_48
  have G_0_20_49 : σ49.2.2.1 o 20 = some (o + 10) := by rw [e49]; exact g_new (by omega) G_0_20_48
  have G_0_21_49 : σ49.2.2.1 o 21 = some (o + 11) := by rw [e49]; exact g_new (by omega) G_0_21_48
  have G_0_22_49 : σ49.2.2.1 o 22 = some (o + 12) := by rw [e49]; exact g_new (by omega) G_0_22_48
  have G_0_23_49 : σ49.2.2.1 o 23 = some (o + 13) := by rw [e49]; exact g_new (by omega) G_0_23_48
  have G_0_24_49 : σ49.2.2.1 o 24 = some (o + 14) := by rw [e49]; exact g_new (by omega) G_0_24_48
  have G_0_25_49 : σ49.2.2.1 o 25 = some (o + 15) := by rw [e49]; exact g_new (by omega) G_0_25_48
  have G_0_26_49 : σ49.2.2.1 o 26 = some (o + 16) := by rw [e49]; exact g_new (by omega) G_0_26_48
  have G_0_38_49 : σ49.2.2.1 o 38 = some (o + 17) := by rw [e49]; exact g_new (by omega) G_0_38_48
  have G_0_39_49 : σ49.2.2.1 o 39 = some (o + 18) := by rw [e49]; exact g_new (by omega) G_0_39_48
  have G_0_40_49 : σ49.2.2.1 o 40 = some (o + 19) := by rw [e49]; exact g_new (by omega) G_0_40_48
  have G_0_41_49 : σ49.2.2.1 o 41 = some (o + 20) := by rw [e49]; exact g_new (by omega) G_0_41_48
  have G_0_42_49 : σ49.2.2.1 o 42 = some (o + 21) := by rw [e49]; exact g_new (by omega) G_0_42_48
  have G_0_43_49 : σ49.2.2.1 o 43 = some (o + 22) := by rw [e49]; exact g_new (by omega) G_0_43_48
  have G_0_47_49 : σ49.2.2.1 o 47 = some (o + 23) := by rw [e49]; exact g_new (by omega) G_0_47_48
  have G_0_48_49 : σ49.2.2.1 o 48 = some (o + 24) := by rw [e49]; exact g_new (by omega) G_0_48_48
  have R_0_49 : σ49.2.2.2.1 o = fun _ => 0 := by rw [e49]; exact (mup_ne (by omega)).trans R_0_48
  have R_1_49 : σ49.2.2.2.1 (o + 1) = fun _ => 0 := by rw [e49]; exact (mup_ne (by omega)).trans R_1_48
  have R_2_49 : σ49.2.2.2.1 (o + 2) = fun _ => 0 := by rw [e49]; exact (mup_ne (by omega)).trans R_2_48
  have R_3_49 : σ49.2.2.2.1 (o + 3) = fun _ => 0 := by rw [e49]; exact (mup_ne (by omega)).trans R_3_48
  have R_4_49 : σ49.2.2.2.1 (o + 4) = fun _ => 0 := by rw [e49]; exact (mup_ne (by omega)).trans R_4_48
  have R_5_49 : σ49.2.2.2.1 (o + 5) = fun _ => 0 := by rw [e49]; exact (mup_ne (by omega)).trans R_5_48
  have R_6_49 : σ49.2.2.2.1 (o + 6) = fun _ => 0 := by rw [e49]; exact (mup_ne (by omega)).trans R_6_48
  have R_7_49 : σ49.2.2.2.1 (o + 7) = fun _ => 0 := by rw [e49]; exact (mup_ne (by omega)).trans R_7_48
  have R_8_49 : σ49.2.2.2.1 (o + 8) = fun _ => 0 := by rw [e49]; exact (mup_ne (by omega)).trans R_8_48
  have R_9_49 : σ49.2.2.2.1 (o + 9) = fun _ => 0 := by rw [e49]; exact (mup_ne (by omega)).trans R_9_48
  have R_10_49 : σ49.2.2.2.1 (o + 10) = fun _ => 0 := by rw [e49]; exact (mup_ne (by omega)).trans R_10_48
  have R_11_49 : σ49.2.2.2.1 (o + 11) = fun _ => 0 := by rw [e49]; exact (mup_ne (by omega)).trans R_11_48
  have R_12_49 : σ49.2.2.2.1 (o + 12) = fun _ => 0 := by rw [e49]; exact (mup_ne (by omega)).trans R_12_48
  have R_13_49 : σ49.2.2.2.1 (o + 13) = fun _ => 0 := by rw [e49]; exact (mup_ne (by omega)).trans R_13_48
  have R_14_49 : σ49.2.2.2.1 (o + 14) = fun _ => 0 := by rw [e49]; exact (mup_ne (by omega)).trans R_14_48
  have R_15_49 : σ49.2.2.2.1 (o + 15) = fun _ => 0 := by rw [e49]; exact (mup_ne (by omega)).trans R_15_48
  have R_16_49 : σ49.2.2.2.1 (o + 16) = fun _ => 0 := by rw [e49]; exact (mup_ne (by omega)).trans R_16_48
  have R_17_49 : σ49.2.2.2.1 (o + 17) = fun _ => 0 := by rw [e49]; exact (mup_ne (by omega)).trans R_17_48
  have R_18_49 : σ49.2.2.2.1 (o + 18) = fun _ => 0 := by rw [e49]; exact (mup_ne (by omega)).trans R_18_48
  have R_19_49 : σ49.2.2.2.1 (o + 19) = fun _ => 0 := by rw [e49]; exact (mup_ne (by omega)).trans R_19_48
  have R_20_49 : σ49.2.2.2.1 (o + 20) = fun _ => 0 := by rw [e49]; exact (mup_ne (by omega)).trans R_20_48
  have R_21_49 : σ49.2.2.2.1 (o + 21) = fun _ => 0 := by rw [e49]; exact (mup_ne (by omega)).trans R_21_48
  have R_22_49 : σ49.2.2.2.1 (o + 22) = fun _ => 0 := by rw [e49]; exact (mup_ne (by omega)).trans R_22_48
  have R_23_49 : σ49.2.2.2.1 (o + 23) = fun _ => 0 := by rw [e49]; exact (mup_ne (by omega)).trans R_23_48
  have R_24_49 : σ49.2.2.2.1 (o + 24) = fun _ => 0 := by rw [e49]; exact (mup_ne (by omega)).trans R_24_48
  have K_25_49 : σ49.2.1[o + 25]? = some (22, 100) := by rw [e49, ← show σ48.2.1.length = o + 25 by omega]; exact k_newS
  have R_25_49 : σ49.2.2.2.1 (o + 25) = fun _ => 0 := by rw [e49, ← show σ48.2.1.length = o + 25 by omega]; exact mup_eq
  clear K_0_48 K_1_48 K_2_48 K_3_48 K_4_48 K_5_48 K_6_48 K_7_48 K_8_48 K_9_48 K_10_48 K_11_48 K_12_48 K_13_48 K_14_48 K_15_48 K_16_48 K_17_48 K_18_48 K_19_48 K_20_48 K_21_48 K_22_48 K_23_48 K_24_48 G_0_2_48 G_0_3_48 G_0_13_48 G_0_14_48 G_0_15_48 G_0_16_48 G_0_17_48 G_0_18_48 G_0_19_48 G_0_20_48 G_0_21_48 G_0_22_48 G_0_23_48 G_0_24_48 G_0_25_48 G_0_26_48 G_0_38_48 G_0_39_48 G_0_40_48 G_0_41_48 G_0_42_48 G_0_43_48 G_0_47_48 G_0_48_48 R_0_48 R_1_48 R_2_48 R_3_48 R_4_48 R_5_48 R_6_48 R_7_48 R_8_48 R_9_48 R_10_48 R_11_48 R_12_48 R_13_48 R_14_48 R_15_48 R_16_48 R_17_48 R_18_48 R_19_48 R_20_48 R_21_48 R_22_48 R_23_48 R_24_48 N_48 T_48 O_48 X_48 e49 σ48
  show RC _ _ _ [some (.ref o), none, none, none] [.ref (o + 25), .ref o] σ49 _
  refine c_putr K_0_49 ?_
  obtain ⟨σ50, e50⟩ : ∃ x, x = mPr σ49 o 49 (some (o + 25)) := ⟨_, rfl⟩
  rw [← e50]
  have N_50 : σ50.2.1.length = o + 26 := by rw [e50]; exact N_49
  have T_50 : σ50.1 = σ.1 + 8801 := by rw [e50]; exact T_49
  have O_50 : rOK σ50 := by rw [e50]; exact rOK_pr O_49 (by omega)
  have X_50 : Ex σ σ50 o := by rw [e50]; exact X_49.pr (by omega)
  have K_0_50 : σ50.2.1[o]? = some (10, 0) := by rw [e50]; exact K_0_49
  have K_1_50 : σ50.2.1[o + 1]? = some (23, 43) := by rw [e50]; exact K_1_49
  have K_2_50 : σ50.2.1[o + 2]? = some (20, 700) := by rw [e50]; exact K_2_49
  have K_3_50 : σ50.2.1[o + 3]? = some (20, 100) := by rw [e50]; exact K_3_49
  have K_4_50 : σ50.2.1[o + 4]? = some (20, 100) := by rw [e50]; exact K_4_49
  have K_5_50 : σ50.2.1[o + 5]? = some (20, 101) := by rw [e50]; exact K_5_49
  have K_6_50 : σ50.2.1[o + 6]? = some (20, 192) := by rw [e50]; exact K_6_49
  have K_7_50 : σ50.2.1[o + 7]? = some (20, 48) := by rw [e50]; exact K_7_49
  have K_8_50 : σ50.2.1[o + 8]? = some (20, 8) := by rw [e50]; exact K_8_49
  have K_9_50 : σ50.2.1[o + 9]? = some (20, 100) := by rw [e50]; exact K_9_49
  have K_10_50 : σ50.2.1[o + 10]? = some (20, 100) := by rw [e50]; exact K_10_49
  have K_11_50 : σ50.2.1[o + 11]? = some (20, 101) := by rw [e50]; exact K_11_49
  have K_12_50 : σ50.2.1[o + 12]? = some (20, 8) := by rw [e50]; exact K_12_49
  have K_13_50 : σ50.2.1[o + 13]? = some (23, 101) := by rw [e50]; exact K_13_49
  have K_14_50 : σ50.2.1[o + 14]? = some (23, 112) := by rw [e50]; exact K_14_49
  have K_15_50 : σ50.2.1[o + 15]? = some (20, 112) := by rw [e50]; exact K_15_49
  have K_16_50 : σ50.2.1[o + 16]? = some (20, 112) := by rw [e50]; exact K_16_49
  have K_17_50 : σ50.2.1[o + 17]? = some (20, 532) := by rw [e50]; exact K_17_49
  have K_18_50 : σ50.2.1[o + 18]? = some (20, 174) := by rw [e50]; exact K_18_49
  have K_19_50 : σ50.2.1[o + 19]? = some (20, 532) := by rw [e50]; exact K_19_49
  have K_20_50 : σ50.2.1[o + 20]? = some (20, 4256) := by rw [e50]; exact K_20_49
  have K_21_50 : σ50.2.1[o + 21]? = some (20, 1064) := by rw [e50]; exact K_21_49
  have K_22_50 : σ50.2.1[o + 22]? = some (22, 2) := by rw [e50]; exact K_22_49
  have K_23_50 : σ50.2.1[o + 23]? = some (20, 2) := by rw [e50]; exact K_23_49
  have K_24_50 : σ50.2.1[o + 24]? = some (22, 101) := by rw [e50]; exact K_24_49
  have K_25_50 : σ50.2.1[o + 25]? = some (22, 100) := by rw [e50]; exact K_25_49
  have G_0_2_50 : σ50.2.2.1 o 2 = some (o + 1) := by rw [e50]; exact g_prK (by decide) G_0_2_49
  have G_0_3_50 : σ50.2.2.1 o 3 = some (o + 2) := by rw [e50]; exact g_prK (by decide) G_0_3_49
  have G_0_13_50 : σ50.2.2.1 o 13 = some (o + 3) := by rw [e50]; exact g_prK (by decide) G_0_13_49
  have G_0_14_50 : σ50.2.2.1 o 14 = some (o + 4) := by rw [e50]; exact g_prK (by decide) G_0_14_49
  have G_0_15_50 : σ50.2.2.1 o 15 = some (o + 5) := by rw [e50]; exact g_prK (by decide) G_0_15_49
  have G_0_16_50 : σ50.2.2.1 o 16 = some (o + 6) := by rw [e50]; exact g_prK (by decide) G_0_16_49
  have G_0_17_50 : σ50.2.2.1 o 17 = some (o + 7) := by rw [e50]; exact g_prK (by decide) G_0_17_49
  have G_0_18_50 : σ50.2.2.1 o 18 = some (o + 8) := by rw [e50]; exact g_prK (by decide) G_0_18_49
  have G_0_19_50 : σ50.2.2.1 o 19 = some (o + 9) := by rw [e50]; exact g_prK (by decide) G_0_19_49
  have G_0_20_50 : σ50.2.2.1 o 20 = some (o + 10) := by rw [e50]; exact g_prK (by decide) G_0_20_49
  have G_0_21_50 : σ50.2.2.1 o 21 = some (o + 11) := by rw [e50]; exact g_prK (by decide) G_0_21_49
  have G_0_22_50 : σ50.2.2.1 o 22 = some (o + 12) := by rw [e50]; exact g_prK (by decide) G_0_22_49
  have G_0_23_50 : σ50.2.2.1 o 23 = some (o + 13) := by rw [e50]; exact g_prK (by decide) G_0_23_49
  have G_0_24_50 : σ50.2.2.1 o 24 = some (o + 14) := by rw [e50]; exact g_prK (by decide) G_0_24_49
  have G_0_25_50 : σ50.2.2.1 o 25 = some (o + 15) := by rw [e50]; exact g_prK (by decide) G_0_25_49
  have G_0_26_50 : σ50.2.2.1 o 26 = some (o + 16) := by rw [e50]; exact g_prK (by decide) G_0_26_49
  have G_0_38_50 : σ50.2.2.1 o 38 = some (o + 17) := by rw [e50]; exact g_prK (by decide) G_0_38_49
  have G_0_39_50 : σ50.2.2.1 o 39 = some (o + 18) := by rw [e50]; exact g_prK (by decide) G_0_39_49
  have G_0_40_50 : σ50.2.2.1 o 40 = some (o + 19) := by rw [e50]; exact g_prK (by decide) G_0_40_49
  have G_0_41_50 : σ50.2.2.1 o 41 = some (o + 20) := by rw [e50]; exact g_prK (by decide) G_0_41_49
  have G_0_42_50 : σ50.2.2.1 o 42 = some (o + 21) := by rw [e50]; exact g_prK (by decide) G_0_42_49
  have G_0_43_50 : σ50.2.2.1 o 43 = some (o + 22) := by rw [e50]; exact g_prK (by decide) G_0_43_49
  have G_0_47_50 : σ50.2.2.1 o 47 = some (o + 23) := by rw [e50]; exact g_prK (by decide) G_0_47_49
  have G_0_48_50 : σ50.2.2.1 o 48 = some (o + 24) := by rw [e50]; exact g_prK (by decide) G_0_48_49
  have R_0_50 : σ50.2.2.2.1 o = fun _ => 0 := by rw [e50]; exact R_0_49
  have R_1_50 : σ50.2.2.2.1 (o + 1) = fun _ => 0 := by rw [e50]; exact R_1_49
  have R_2_50 : σ50.2.2.2.1 (o + 2) = fun _ => 0 := by rw [e50]; exact R_2_49
  have R_3_50 : σ50.2.2.2.1 (o + 3) = fun _ => 0 := by rw [e50]; exact R_3_49
  have R_4_50 : σ50.2.2.2.1 (o + 4) = fun _ => 0 := by rw [e50]; exact R_4_49
  have R_5_50 : σ50.2.2.2.1 (o + 5) = fun _ => 0 := by rw [e50]; exact R_5_49
  have R_6_50 : σ50.2.2.2.1 (o + 6) = fun _ => 0 := by rw [e50]; exact R_6_49
  have R_7_50 : σ50.2.2.2.1 (o + 7) = fun _ => 0 := by rw [e50]; exact R_7_49
  have R_8_50 : σ50.2.2.2.1 (o + 8) = fun _ => 0 := by rw [e50]; exact R_8_49
  have R_9_50 : σ50.2.2.2.1 (o + 9) = fun _ => 0 := by rw [e50]; exact R_9_49
  have R_10_50 : σ50.2.2.2.1 (o + 10) = fun _ => 0 := by rw [e50]; exact R_10_49
  have R_11_50 : σ50.2.2.2.1 (o + 11) = fun _ => 0 := by rw [e50]; exact R_11_49
  have R_12_50 : σ50.2.2.2.1 (o + 12) = fun _ => 0 := by rw [e50]; exact R_12_49
  have R_13_50 : σ50.2.2.2.1 (o + 13) = fun _ => 0 := by rw [e50]; exact R_13_49
  have R_14_50 : σ50.2.2.2.1 (o + 14) = fun _ => 0 := by rw [e50]; exact R_14_49
  have R_15_50 : σ50.2.2.2.1 (o + 15) = fun _ => 0 := by rw [e50]; exact R_15_49
  have R_16_50 : σ50.2.2.2.1 (o + 16) = fun _ => 0 := by rw [e50]; exact R_16_49
  have R_17_50 : σ50.2.2.2.1 (o + 17) = fun _ => 0 := by rw [e50]; exact R_17_49
  have R_18_50 : σ50.2.2.2.1 (o + 18) = fun _ => 0 := by rw [e50]; exact R_18_49
  have R_19_50 : σ50.2.2.2.1 (o + 19) = fun _ => 0 := by rw [e50]; exact R_19_49
  have R_20_50 : σ50.2.2.2.1 (o + 20) = fun _ => 0 := by rw [e50]; exact R_20_49
  have R_21_50 : σ50.2.2.2.1 (o + 21) = fun _ => 0 := by rw [e50]; exact R_21_49
  have R_22_50 : σ50.2.2.2.1 (o + 22) = fun _ => 0 := by rw [e50]; exact R_22_49
  have R_23_50 : σ50.2.2.2.1 (o + 23) = fun _ => 0 := by rw [e50]; exact R_23_49
  have R_24_50 : σ50.2.2.2.1 (o + 24) = fun _ => 0 := by rw [e50]; exact R_24_49
  have R_25_50 : σ50.2.2.2.1 (o + 25) = fun _ => 0 := by rw [e50]; exact R_25_49
  have G_0_49_50 : σ50.2.2.1 o 49 = some (o + 25) := by rw [e50]; exact g_prS
  clear K_0_49 K_1_49 K_2_49 K_3_49 K_4_49 K_5_49 K_6_49 K_7_49 K_8_49 K_9_49 K_10_49 K_11_49 K_12_49 K_13_49 K_14_49 K_15_49 K_16_49 K_17_49 K_18_49 K_19_49 K_20_49 K_21_49 K_22_49 K_23_49 K_24_49 K_25_49 G_0_2_49 G_0_3_49 G_0_13_49 G_0_14_49 G_0_15_49 G_0_16_49 G_0_17_49 G_0_18_49 G_0_19_49 G_0_20_49 G_0_21_49 G_0_22_49 G_0_23_49 G_0_24_49 G_0_25_49 G_0_26_49 G_0_38_49 G_0_39_49 G_0_40_49 G_0_41_49 G_0_42_49 G_0_43_49 G_0_47_49 G_0_48_49 R_0_49 R_1_49 R_2_49 R_3_49 R_4_49 R_5_49 R_6_49 R_7_49 R_8_49 R_9_49 R_10_49 R_11_49 R_12_49 R_13_49 R_14_49 R_15_49 R_16_49 R_17_49 R_18_49 R_19_49 R_20_49 R_21_49 R_22_49 R_23_49 R_24_49 R_25_49 N_49 T_49 O_49 X_49 e50 σ49
  show RC _ _ _ [some (.ref o), none, none, none] [] σ50 _
  refine c_aload rfl ?_
  refine c_int ?_
  refine c_newa (t := 0) (z := 16) (by decide) (by decide) (mOut_lt (ltL [o] rfl (List.forall_mem_cons.mpr ⟨by omega, (fun _ h => absurd h List.not_mem_nil)⟩)) (ltS [o] rfl (List.forall_mem_cons.mpr ⟨by omega, (fun _ h => absurd h List.not_mem_nil)⟩))) O_50 ?_
  rw [show ((16 : Int32)).toNatClampNeg = 16 by decide]
  obtain ⟨σ51, e51⟩ : ∃ x, x = mNew σ50 20 16 16 := ⟨_, rfl⟩
  rw [← e51, show σ50.2.1.length = o + 26 by omega]
  have N_51 : σ51.2.1.length = o + 27 := by rw [e51, len_new]; omega
  have T_51 : σ51.1 = σ.1 + 8817 := by rw [e51]; show σ50.1 + 16 = _; omega
  have O_51 : rOK σ51 := by rw [e51]; exact rOK_new O_50
  have X_51 : Ex σ σ51 o := by rw [e51]; exact X_50.new (by omega)
  have K_0_51 : σ51.2.1[o]? = some (10, 0) := by rw [e51]; exact k_new K_0_50
  have K_1_51 : σ51.2.1[o + 1]? = some (23, 43) := by rw [e51]; exact k_new K_1_50
  have K_2_51 : σ51.2.1[o + 2]? = some (20, 700) := by rw [e51]; exact k_new K_2_50
  have K_3_51 : σ51.2.1[o + 3]? = some (20, 100) := by rw [e51]; exact k_new K_3_50
  have K_4_51 : σ51.2.1[o + 4]? = some (20, 100) := by rw [e51]; exact k_new K_4_50
  have K_5_51 : σ51.2.1[o + 5]? = some (20, 101) := by rw [e51]; exact k_new K_5_50
  have K_6_51 : σ51.2.1[o + 6]? = some (20, 192) := by rw [e51]; exact k_new K_6_50
  have K_7_51 : σ51.2.1[o + 7]? = some (20, 48) := by rw [e51]; exact k_new K_7_50
  have K_8_51 : σ51.2.1[o + 8]? = some (20, 8) := by rw [e51]; exact k_new K_8_50
  have K_9_51 : σ51.2.1[o + 9]? = some (20, 100) := by rw [e51]; exact k_new K_9_50
  have K_10_51 : σ51.2.1[o + 10]? = some (20, 100) := by rw [e51]; exact k_new K_10_50
  have K_11_51 : σ51.2.1[o + 11]? = some (20, 101) := by rw [e51]; exact k_new K_11_50
  have K_12_51 : σ51.2.1[o + 12]? = some (20, 8) := by rw [e51]; exact k_new K_12_50
  have K_13_51 : σ51.2.1[o + 13]? = some (23, 101) := by rw [e51]; exact k_new K_13_50
  have K_14_51 : σ51.2.1[o + 14]? = some (23, 112) := by rw [e51]; exact k_new K_14_50
  have K_15_51 : σ51.2.1[o + 15]? = some (20, 112) := by rw [e51]; exact k_new K_15_50
  have K_16_51 : σ51.2.1[o + 16]? = some (20, 112) := by rw [e51]; exact k_new K_16_50
  have K_17_51 : σ51.2.1[o + 17]? = some (20, 532) := by rw [e51]; exact k_new K_17_50
  have K_18_51 : σ51.2.1[o + 18]? = some (20, 174) := by rw [e51]; exact k_new K_18_50
  have K_19_51 : σ51.2.1[o + 19]? = some (20, 532) := by rw [e51]; exact k_new K_19_50
  have K_20_51 : σ51.2.1[o + 20]? = some (20, 4256) := by rw [e51]; exact k_new K_20_50
  have K_21_51 : σ51.2.1[o + 21]? = some (20, 1064) := by rw [e51]; exact k_new K_21_50
  have K_22_51 : σ51.2.1[o + 22]? = some (22, 2) := by rw [e51]; exact k_new K_22_50
  have K_23_51 : σ51.2.1[o + 23]? = some (20, 2) := by rw [e51]; exact k_new K_23_50
  have K_24_51 : σ51.2.1[o + 24]? = some (22, 101) := by rw [e51]; exact k_new K_24_50
  have K_25_51 : σ51.2.1[o + 25]? = some (22, 100) := by rw [e51]; exact k_new K_25_50
  have G_0_2_51 : σ51.2.2.1 o 2 = some (o + 1) := by rw [e51]; exact g_new (by omega) G_0_2_50
  have G_0_3_51 : σ51.2.2.1 o 3 = some (o + 2) := by rw [e51]; exact g_new (by omega) G_0_3_50
  have G_0_13_51 : σ51.2.2.1 o 13 = some (o + 3) := by rw [e51]; exact g_new (by omega) G_0_13_50
  have G_0_14_51 : σ51.2.2.1 o 14 = some (o + 4) := by rw [e51]; exact g_new (by omega) G_0_14_50
  have G_0_15_51 : σ51.2.2.1 o 15 = some (o + 5) := by rw [e51]; exact g_new (by omega) G_0_15_50
  have G_0_16_51 : σ51.2.2.1 o 16 = some (o + 6) := by rw [e51]; exact g_new (by omega) G_0_16_50
  have G_0_17_51 : σ51.2.2.1 o 17 = some (o + 7) := by rw [e51]; exact g_new (by omega) G_0_17_50
  have G_0_18_51 : σ51.2.2.1 o 18 = some (o + 8) := by rw [e51]; exact g_new (by omega) G_0_18_50
  have G_0_19_51 : σ51.2.2.1 o 19 = some (o + 9) := by rw [e51]; exact g_new (by omega) G_0_19_50
  have G_0_20_51 : σ51.2.2.1 o 20 = some (o + 10) := by rw [e51]; exact g_new (by omega) G_0_20_50
  have G_0_21_51 : σ51.2.2.1 o 21 = some (o + 11) := by rw [e51]; exact g_new (by omega) G_0_21_50
  have G_0_22_51 : σ51.2.2.1 o 22 = some (o + 12) := by rw [e51]; exact g_new (by omega) G_0_22_50
  have G_0_23_51 : σ51.2.2.1 o 23 = some (o + 13) := by rw [e51]; exact g_new (by omega) G_0_23_50
  have G_0_24_51 : σ51.2.2.1 o 24 = some (o + 14) := by rw [e51]; exact g_new (by omega) G_0_24_50
  have G_0_25_51 : σ51.2.2.1 o 25 = some (o + 15) := by rw [e51]; exact g_new (by omega) G_0_25_50
  have G_0_26_51 : σ51.2.2.1 o 26 = some (o + 16) := by rw [e51]; exact g_new (by omega) G_0_26_50
  have G_0_38_51 : σ51.2.2.1 o 38 = some (o + 17) := by rw [e51]; exact g_new (by omega) G_0_38_50
  have G_0_39_51 : σ51.2.2.1 o 39 = some (o + 18) := by rw [e51]; exact g_new (by omega) G_0_39_50
  have G_0_40_51 : σ51.2.2.1 o 40 = some (o + 19) := by rw [e51]; exact g_new (by omega) G_0_40_50
  have G_0_41_51 : σ51.2.2.1 o 41 = some (o + 20) := by rw [e51]; exact g_new (by omega) G_0_41_50
  have G_0_42_51 : σ51.2.2.1 o 42 = some (o + 21) := by rw [e51]; exact g_new (by omega) G_0_42_50
  have G_0_43_51 : σ51.2.2.1 o 43 = some (o + 22) := by rw [e51]; exact g_new (by omega) G_0_43_50
  have G_0_47_51 : σ51.2.2.1 o 47 = some (o + 23) := by rw [e51]; exact g_new (by omega) G_0_47_50
  have G_0_48_51 : σ51.2.2.1 o 48 = some (o + 24) := by rw [e51]; exact g_new (by omega) G_0_48_50
  have G_0_49_51 : σ51.2.2.1 o 49 = some (o + 25) := by rw [e51]; exact g_new (by omega) G_0_49_50
  have R_0_51 : σ51.2.2.2.1 o = fun _ => 0 := by rw [e51]; exact (mup_ne (by omega)).trans R_0_50
  have R_1_51 : σ51.2.2.2.1 (o + 1) = fun _ => 0 := by rw [e51]; exact (mup_ne (by omega)).trans R_1_50
  have R_2_51 : σ51.2.2.2.1 (o + 2) = fun _ => 0 := by rw [e51]; exact (mup_ne (by omega)).trans R_2_50
  have R_3_51 : σ51.2.2.2.1 (o + 3) = fun _ => 0 := by rw [e51]; exact (mup_ne (by omega)).trans R_3_50
  have R_4_51 : σ51.2.2.2.1 (o + 4) = fun _ => 0 := by rw [e51]; exact (mup_ne (by omega)).trans R_4_50
  have R_5_51 : σ51.2.2.2.1 (o + 5) = fun _ => 0 := by rw [e51]; exact (mup_ne (by omega)).trans R_5_50
  have R_6_51 : σ51.2.2.2.1 (o + 6) = fun _ => 0 := by rw [e51]; exact (mup_ne (by omega)).trans R_6_50
  have R_7_51 : σ51.2.2.2.1 (o + 7) = fun _ => 0 := by rw [e51]; exact (mup_ne (by omega)).trans R_7_50
  have R_8_51 : σ51.2.2.2.1 (o + 8) = fun _ => 0 := by rw [e51]; exact (mup_ne (by omega)).trans R_8_50
  have R_9_51 : σ51.2.2.2.1 (o + 9) = fun _ => 0 := by rw [e51]; exact (mup_ne (by omega)).trans R_9_50
  have R_10_51 : σ51.2.2.2.1 (o + 10) = fun _ => 0 := by rw [e51]; exact (mup_ne (by omega)).trans R_10_50
  have R_11_51 : σ51.2.2.2.1 (o + 11) = fun _ => 0 := by rw [e51]; exact (mup_ne (by omega)).trans R_11_50
  have R_12_51 : σ51.2.2.2.1 (o + 12) = fun _ => 0 := by rw [e51]; exact (mup_ne (by omega)).trans R_12_50
  have R_13_51 : σ51.2.2.2.1 (o + 13) = fun _ => 0 := by rw [e51]; exact (mup_ne (by omega)).trans R_13_50
  have R_14_51 : σ51.2.2.2.1 (o + 14) = fun _ => 0 := by rw [e51]; exact (mup_ne (by omega)).trans R_14_50
  have R_15_51 : σ51.2.2.2.1 (o + 15) = fun _ => 0 := by rw [e51]; exact (mup_ne (by omega)).trans R_15_50
  have R_16_51 : σ51.2.2.2.1 (o + 16) = fun _ => 0 := by rw [e51]; exact (mup_ne (by omega)).trans R_16_50
  have R_17_51 : σ51.2.2.2.1 (o + 17) = fun _ => 0 := by rw [e51]; exact (mup_ne (by omega)).trans R_17_50
  have R_18_51 : σ51.2.2.2.1 (o + 18) = fun _ => 0 := by rw [e51]; exact (mup_ne (by omega)).trans R_18_50
  have R_19_51 : σ51.2.2.2.1 (o + 19) = fun _ => 0 := by rw [e51]; exact (mup_ne (by omega)).trans R_19_50
  have R_20_51 : σ51.2.2.2.1 (o + 20) = fun _ => 0 := by rw [e51]; exact (mup_ne (by omega)).trans R_20_50
  have R_21_51 : σ51.2.2.2.1 (o + 21) = fun _ => 0 := by rw [e51]; exact (mup_ne (by omega)).trans R_21_50
  have R_22_51 : σ51.2.2.2.1 (o + 22) = fun _ => 0 := by rw [e51]; exact (mup_ne (by omega)).trans R_22_50
  have R_23_51 : σ51.2.2.2.1 (o + 23) = fun _ => 0 := by rw [e51]; exact (mup_ne (by omega)).trans R_23_50
  have R_24_51 : σ51.2.2.2.1 (o + 24) = fun _ => 0 := by rw [e51]; exact (mup_ne (by omega)).trans R_24_50
  have R_25_51 : σ51.2.2.2.1 (o + 25) = fun _ => 0 := by rw [e51]; exact (mup_ne (by omega)).trans R_25_50
  have K_26_51 : σ51.2.1[o + 26]? = some (20, 16) := by rw [e51, ← show σ50.2.1.length = o + 26 by omega]; exact k_newS
  have R_26_51 : σ51.2.2.2.1 (o + 26) = fun _ => 0 := by rw [e51, ← show σ50.2.1.length = o + 26 by omega]; exact mup_eq
  clear K_0_50 K_1_50 K_2_50 K_3_50 K_4_50 K_5_50 K_6_50 K_7_50 K_8_50 K_9_50 K_10_50 K_11_50 K_12_50 K_13_50 K_14_50 K_15_50 K_16_50 K_17_50 K_18_50 K_19_50 K_20_50 K_21_50 K_22_50 K_23_50 K_24_50 K_25_50 G_0_2_50 G_0_3_50 G_0_13_50 G_0_14_50 G_0_15_50 G_0_16_50 G_0_17_50 G_0_18_50 G_0_19_50 G_0_20_50 G_0_21_50 G_0_22_50 G_0_23_50 G_0_24_50 G_0_25_50 G_0_26_50 G_0_38_50 G_0_39_50 G_0_40_50 G_0_41_50 G_0_42_50 G_0_43_50 G_0_47_50 G_0_48_50 G_0_49_50 R_0_50 R_1_50 R_2_50 R_3_50 R_4_50 R_5_50 R_6_50 R_7_50 R_8_50 R_9_50 R_10_50 R_11_50 R_12_50 R_13_50 R_14_50 R_15_50 R_16_50 R_17_50 R_18_50 R_19_50 R_20_50 R_21_50 R_22_50 R_23_50 R_24_50 R_25_50 N_50 T_50 O_50 X_50 e51 σ50
  show RC _ _ _ [some (.ref o), none, none, none] [.ref (o + 26), .ref o] σ51 _
  refine c_putr K_0_51 ?_
  obtain ⟨σ52, e52⟩ : ∃ x, x = mPr σ51 o 50 (some (o + 26)) := ⟨_, rfl⟩
  rw [← e52]
  have N_52 : σ52.2.1.length = o + 27 := by rw [e52]; exact N_51
  have T_52 : σ52.1 = σ.1 + 8817 := by rw [e52]; exact T_51
  have O_52 : rOK σ52 := by rw [e52]; exact rOK_pr O_51 (by omega)
  have X_52 : Ex σ σ52 o := by rw [e52]; exact X_51.pr (by omega)
  have K_0_52 : σ52.2.1[o]? = some (10, 0) := by rw [e52]; exact K_0_51
  have K_1_52 : σ52.2.1[o + 1]? = some (23, 43) := by rw [e52]; exact K_1_51
  have K_2_52 : σ52.2.1[o + 2]? = some (20, 700) := by rw [e52]; exact K_2_51
  have K_3_52 : σ52.2.1[o + 3]? = some (20, 100) := by rw [e52]; exact K_3_51
  have K_4_52 : σ52.2.1[o + 4]? = some (20, 100) := by rw [e52]; exact K_4_51
  have K_5_52 : σ52.2.1[o + 5]? = some (20, 101) := by rw [e52]; exact K_5_51
  have K_6_52 : σ52.2.1[o + 6]? = some (20, 192) := by rw [e52]; exact K_6_51
  have K_7_52 : σ52.2.1[o + 7]? = some (20, 48) := by rw [e52]; exact K_7_51
  have K_8_52 : σ52.2.1[o + 8]? = some (20, 8) := by rw [e52]; exact K_8_51
  have K_9_52 : σ52.2.1[o + 9]? = some (20, 100) := by rw [e52]; exact K_9_51
  have K_10_52 : σ52.2.1[o + 10]? = some (20, 100) := by rw [e52]; exact K_10_51
  have K_11_52 : σ52.2.1[o + 11]? = some (20, 101) := by rw [e52]; exact K_11_51
  have K_12_52 : σ52.2.1[o + 12]? = some (20, 8) := by rw [e52]; exact K_12_51
  have K_13_52 : σ52.2.1[o + 13]? = some (23, 101) := by rw [e52]; exact K_13_51
  have K_14_52 : σ52.2.1[o + 14]? = some (23, 112) := by rw [e52]; exact K_14_51
  have K_15_52 : σ52.2.1[o + 15]? = some (20, 112) := by rw [e52]; exact K_15_51
  have K_16_52 : σ52.2.1[o + 16]? = some (20, 112) := by rw [e52]; exact K_16_51
  have K_17_52 : σ52.2.1[o + 17]? = some (20, 532) := by rw [e52]; exact K_17_51
  have K_18_52 : σ52.2.1[o + 18]? = some (20, 174) := by rw [e52]; exact K_18_51
  have K_19_52 : σ52.2.1[o + 19]? = some (20, 532) := by rw [e52]; exact K_19_51
  have K_20_52 : σ52.2.1[o + 20]? = some (20, 4256) := by rw [e52]; exact K_20_51
  have K_21_52 : σ52.2.1[o + 21]? = some (20, 1064) := by rw [e52]; exact K_21_51
  have K_22_52 : σ52.2.1[o + 22]? = some (22, 2) := by rw [e52]; exact K_22_51
  have K_23_52 : σ52.2.1[o + 23]? = some (20, 2) := by rw [e52]; exact K_23_51
  have K_24_52 : σ52.2.1[o + 24]? = some (22, 101) := by rw [e52]; exact K_24_51
  have K_25_52 : σ52.2.1[o + 25]? = some (22, 100) := by rw [e52]; exact K_25_51
  have K_26_52 : σ52.2.1[o + 26]? = some (20, 16) := by rw [e52]; exact K_26_51
  have G_0_2_52 : σ52.2.2.1 o 2 = some (o + 1) := by rw [e52]; exact g_prK (by decide) G_0_2_51
  have G_0_3_52 : σ52.2.2.1 o 3 = some (o + 2) := by rw [e52]; exact g_prK (by decide) G_0_3_51
  have G_0_13_52 : σ52.2.2.1 o 13 = some (o + 3) := by rw [e52]; exact g_prK (by decide) G_0_13_51
  have G_0_14_52 : σ52.2.2.1 o 14 = some (o + 4) := by rw [e52]; exact g_prK (by decide) G_0_14_51
  have G_0_15_52 : σ52.2.2.1 o 15 = some (o + 5) := by rw [e52]; exact g_prK (by decide) G_0_15_51
  have G_0_16_52 : σ52.2.2.1 o 16 = some (o + 6) := by rw [e52]; exact g_prK (by decide) G_0_16_51
  have G_0_17_52 : σ52.2.2.1 o 17 = some (o + 7) := by rw [e52]; exact g_prK (by decide) G_0_17_51
  have G_0_18_52 : σ52.2.2.1 o 18 = some (o + 8) := by rw [e52]; exact g_prK (by decide) G_0_18_51
  have G_0_19_52 : σ52.2.2.1 o 19 = some (o + 9) := by rw [e52]; exact g_prK (by decide) G_0_19_51
  have G_0_20_52 : σ52.2.2.1 o 20 = some (o + 10) := by rw [e52]; exact g_prK (by decide) G_0_20_51
  have G_0_21_52 : σ52.2.2.1 o 21 = some (o + 11) := by rw [e52]; exact g_prK (by decide) G_0_21_51
  have G_0_22_52 : σ52.2.2.1 o 22 = some (o + 12) := by rw [e52]; exact g_prK (by decide) G_0_22_51
  have G_0_23_52 : σ52.2.2.1 o 23 = some (o + 13) := by rw [e52]; exact g_prK (by decide) G_0_23_51
  have G_0_24_52 : σ52.2.2.1 o 24 = some (o + 14) := by rw [e52]; exact g_prK (by decide) G_0_24_51
  have G_0_25_52 : σ52.2.2.1 o 25 = some (o + 15) := by rw [e52]; exact g_prK (by decide) G_0_25_51
  have G_0_26_52 : σ52.2.2.1 o 26 = some (o + 16) := by rw [e52]; exact g_prK (by decide) G_0_26_51
  have G_0_38_52 : σ52.2.2.1 o 38 = some (o + 17) := by rw [e52]; exact g_prK (by decide) G_0_38_51
  have G_0_39_52 : σ52.2.2.1 o 39 = some (o + 18) := by rw [e52]; exact g_prK (by decide) G_0_39_51
  have G_0_40_52 : σ52.2.2.1 o 40 = some (o + 19) := by rw [e52]; exact g_prK (by decide) G_0_40_51
  have G_0_41_52 : σ52.2.2.1 o 41 = some (o + 20) := by rw [e52]; exact g_prK (by decide) G_0_41_51
  have G_0_42_52 : σ52.2.2.1 o 42 = some (o + 21) := by rw [e52]; exact g_prK (by decide) G_0_42_51
  have G_0_43_52 : σ52.2.2.1 o 43 = some (o + 22) := by rw [e52]; exact g_prK (by decide) G_0_43_51
  have G_0_47_52 : σ52.2.2.1 o 47 = some (o + 23) := by rw [e52]; exact g_prK (by decide) G_0_47_51
  have G_0_48_52 : σ52.2.2.1 o 48 = some (o + 24) := by rw [e52]; exact g_prK (by decide) G_0_48_51
  have G_0_49_52 : σ52.2.2.1 o 49 = some (o + 25) := by rw [e52]; exact g_prK (by decide) G_0_49_51
  have R_0_52 : σ52.2.2.2.1 o = fun _ => 0 := by rw [e52]; exact R_0_51
  have R_1_52 : σ52.2.2.2.1 (o + 1) = fun _ => 0 := by rw [e52]; exact R_1_51
  have R_2_52 : σ52.2.2.2.1 (o + 2) = fun _ => 0 := by rw [e52]; exact R_2_51
  have R_3_52 : σ52.2.2.2.1 (o + 3) = fun _ => 0 := by rw [e52]; exact R_3_51
  have R_4_52 : σ52.2.2.2.1 (o + 4) = fun _ => 0 := by rw [e52]; exact R_4_51
  have R_5_52 : σ52.2.2.2.1 (o + 5) = fun _ => 0 := by rw [e52]; exact R_5_51
  have R_6_52 : σ52.2.2.2.1 (o + 6) = fun _ => 0 := by rw [e52]; exact R_6_51
  have R_7_52 : σ52.2.2.2.1 (o + 7) = fun _ => 0 := by rw [e52]; exact R_7_51
  have R_8_52 : σ52.2.2.2.1 (o + 8) = fun _ => 0 := by rw [e52]; exact R_8_51
  have R_9_52 : σ52.2.2.2.1 (o + 9) = fun _ => 0 := by rw [e52]; exact R_9_51
  have R_10_52 : σ52.2.2.2.1 (o + 10) = fun _ => 0 := by rw [e52]; exact R_10_51
  have R_11_52 : σ52.2.2.2.1 (o + 11) = fun _ => 0 := by rw [e52]; exact R_11_51
  have R_12_52 : σ52.2.2.2.1 (o + 12) = fun _ => 0 := by rw [e52]; exact R_12_51
  have R_13_52 : σ52.2.2.2.1 (o + 13) = fun _ => 0 := by rw [e52]; exact R_13_51
  have R_14_52 : σ52.2.2.2.1 (o + 14) = fun _ => 0 := by rw [e52]; exact R_14_51
  have R_15_52 : σ52.2.2.2.1 (o + 15) = fun _ => 0 := by rw [e52]; exact R_15_51
  have R_16_52 : σ52.2.2.2.1 (o + 16) = fun _ => 0 := by rw [e52]; exact R_16_51
  have R_17_52 : σ52.2.2.2.1 (o + 17) = fun _ => 0 := by rw [e52]; exact R_17_51
  have R_18_52 : σ52.2.2.2.1 (o + 18) = fun _ => 0 := by rw [e52]; exact R_18_51
  have R_19_52 : σ52.2.2.2.1 (o + 19) = fun _ => 0 := by rw [e52]; exact R_19_51
  have R_20_52 : σ52.2.2.2.1 (o + 20) = fun _ => 0 := by rw [e52]; exact R_20_51
  have R_21_52 : σ52.2.2.2.1 (o + 21) = fun _ => 0 := by rw [e52]; exact R_21_51
  have R_22_52 : σ52.2.2.2.1 (o + 22) = fun _ => 0 := by rw [e52]; exact R_22_51
  have R_23_52 : σ52.2.2.2.1 (o + 23) = fun _ => 0 := by rw [e52]; exact R_23_51
  have R_24_52 : σ52.2.2.2.1 (o + 24) = fun _ => 0 := by rw [e52]; exact R_24_51
  have R_25_52 : σ52.2.2.2.1 (o + 25) = fun _ => 0 := by rw [e52]; exact R_25_51
  have R_26_52 : σ52.2.2.2.1 (o + 26) = fun _ => 0 := by rw [e52]; exact R_26_51
  have G_0_50_52 : σ52.2.2.1 o 50 = some (o + 26) := by rw [e52]; exact g_prS
  clear K_0_51 K_1_51 K_2_51 K_3_51 K_4_51 K_5_51 K_6_51 K_7_51 K_8_51 K_9_51 K_10_51 K_11_51 K_12_51 K_13_51 K_14_51 K_15_51 K_16_51 K_17_51 K_18_51 K_19_51 K_20_51 K_21_51 K_22_51 K_23_51 K_24_51 K_25_51 K_26_51 G_0_2_51 G_0_3_51 G_0_13_51 G_0_14_51 G_0_15_51 G_0_16_51 G_0_17_51 G_0_18_51 G_0_19_51 G_0_20_51 G_0_21_51 G_0_22_51 G_0_23_51 G_0_24_51 G_0_25_51 G_0_26_51 G_0_38_51 G_0_39_51 G_0_40_51 G_0_41_51 G_0_42_51 G_0_43_51 G_0_47_51 G_0_48_51 G_0_49_51 R_0_51 R_1_51 R_2_51 R_3_51 R_4_51 R_5_51 R_6_51 R_7_51 R_8_51 R_9_51 R_10_51 R_11_51 R_12_51 R_13_51 R_14_51 R_15_51 R_16_51 R_17_51 R_18_51 R_19_51 R_20_51 R_21_51 R_22_51 R_23_51 R_24_51 R_25_51 R_26_51 N_51 T_51 O_51 X_51 e52 σ51
  show RC _ _ _ [some (.ref o), none, none, none] [] σ52 _
  refine c_int ?_
  refine c_istore (L' := [some (.ref o), some (.int 0), none, none]) rfl rfl ?_
  refine c_fall ?_
  show RC _ _ _ [some (.ref o), some (.int 0), none, none] [] σ52 _
  refine c_rest (Q := fun r τ => r = none ∧ (fun τ => ∃ σ9, τ = nY10_init_N o σ9 ∧ σ9.2.1.length = o + 27 ∧ σ9.1 = σ.1 + 8817 ∧ rOK σ9 ∧ Ex σ σ9 o ∧ isMod (mBo σ9) o ∧ σ9.2.2.2.1 o = (fun _ => 0) ∧ σ9.2.2.2.1 (o + 1) = (fun _ => 0) ∧ σ9.2.2.2.1 (o + 2) = (fun _ => 0) ∧ σ9.2.2.2.1 (o + 3) = (fun _ => 0) ∧ σ9.2.2.2.1 (o + 4) = (fun _ => 0) ∧ σ9.2.2.2.1 (o + 5) = (fun _ => 0) ∧ σ9.2.2.2.1 (o + 6) = (fun _ => 0) ∧ σ9.2.2.2.1 (o + 7) = (fun _ => 0) ∧ σ9.2.2.2.1 (o + 8) = (fun _ => 0) ∧ σ9.2.2.2.1 (o + 9) = (fun _ => 0) ∧ σ9.2.2.2.1 (o + 10) = (fun _ => 0) ∧ σ9.2.2.2.1 (o + 11) = (fun _ => 0) ∧ σ9.2.2.2.1 (o + 12) = (fun _ => 0) ∧ σ9.2.2.2.1 (o + 13) = (fun _ => 0) ∧ σ9.2.2.2.1 (o + 14) = (fun _ => 0) ∧ σ9.2.2.2.1 (o + 15) = (fun _ => 0) ∧ σ9.2.2.2.1 (o + 16) = (fun _ => 0) ∧ σ9.2.2.2.1 (o + 17) = (fun _ => 0) ∧ σ9.2.2.2.1 (o + 18) = (fun _ => 0) ∧ σ9.2.2.2.1 (o + 19) = (fun _ => 0) ∧ σ9.2.2.2.1 (o + 20) = (fun _ => 0) ∧ σ9.2.2.2.1 (o + 21) = (fun _ => 0) ∧ σ9.2.2.2.1 (o + 22) = (fun _ => 0) ∧ σ9.2.2.2.1 (o + 23) = (fun _ => 0) ∧ σ9.2.2.2.1 (o + 24) = (fun _ => 0) ∧ σ9.2.2.2.1 (o + 25) = (fun _ => 0) ∧ σ9.2.2.2.1 (o + 26) = (fun _ => 0)) τ) (by omega) ?_ (fun r τ h => h)
  have hlay := mSt_layW (σ := σ52) [(o, (fun _ => 0)), (o + 3, (fun _ => 0)), (o + 4, (fun _ => 0)), (o + 5, (fun _ => 0)), (o + 6, (fun _ => 0)), (o + 7, (fun _ => 0)), (o + 8, (fun _ => 0)), (o + 9, (fun _ => 0)), (o + 10, (fun _ => 0)), (o + 11, (fun _ => 0)), (o + 12, (fun _ => 0)), (o + 17, (fun _ => 0)), (o + 22, (fun _ => 0))] [(o + 1, (σ52.2.2.2.2 (o + 1)))] (List.forall_mem_cons.mpr ⟨R_0_52, (List.forall_mem_cons.mpr ⟨R_3_52, (List.forall_mem_cons.mpr ⟨R_4_52, (List.forall_mem_cons.mpr ⟨R_5_52, (List.forall_mem_cons.mpr ⟨R_6_52, (List.forall_mem_cons.mpr ⟨R_7_52, (List.forall_mem_cons.mpr ⟨R_8_52, (List.forall_mem_cons.mpr ⟨R_9_52, (List.forall_mem_cons.mpr ⟨R_10_52, (List.forall_mem_cons.mpr ⟨R_11_52, (List.forall_mem_cons.mpr ⟨R_12_52, (List.forall_mem_cons.mpr ⟨R_17_52, (List.forall_mem_cons.mpr ⟨R_22_52, (fun _ h => absurd h List.not_mem_nil)⟩)⟩)⟩)⟩)⟩)⟩)⟩)⟩)⟩)⟩)⟩)⟩)⟩) (List.forall_mem_cons.mpr ⟨rfl, (fun _ h => absurd h List.not_mem_nil)⟩)
  rw [← hlay]
  clear hlay
  exact tX10_init_t (d := d + 0) (B := mBo σ52) ⟨K_0_52, K_1_52, K_2_52, K_3_52, K_4_52, K_5_52, K_6_52, K_7_52, K_8_52, K_9_52, K_10_52, K_11_52, K_12_52, K_13_52, K_14_52, K_15_52, K_16_52, K_17_52, K_18_52, K_19_52, K_20_52, K_21_52, K_22_52, K_23_52, K_24_52, K_25_52, K_26_52, G_0_2_52, G_0_3_52, G_0_13_52, G_0_14_52, G_0_15_52, G_0_16_52, G_0_17_52, G_0_18_52, G_0_19_52, G_0_20_52, G_0_21_52, G_0_22_52, G_0_23_52, G_0_24_52, G_0_25_52, G_0_26_52, G_0_38_52, G_0_39_52, G_0_40_52, G_0_41_52, G_0_42_52, G_0_43_52, G_0_47_52, G_0_48_52, G_0_49_52, G_0_50_52⟩ 0 (fun _ => 0) (σ52.2.2.2.2 (o + 1)) (fun _ => 0) (fun _ => 0) (fun _ => 0) (fun _ => 0) (fun _ => 0) (fun _ => 0) (fun _ => 0) (fun _ => 0) (fun _ => 0) (fun _ => 0) (fun _ => 0) (fun _ => 0) (hT (σ52.2.2.2.2 (o + 1))) ⟨rfl, σ52, rfl, N_52, T_52, O_52, X_52, ⟨K_0_52, K_1_52, K_2_52, K_3_52, K_4_52, K_5_52, K_6_52, K_7_52, K_8_52, K_9_52, K_10_52, K_11_52, K_12_52, K_13_52, K_14_52, K_15_52, K_16_52, K_17_52, K_18_52, K_19_52, K_20_52, K_21_52, K_22_52, K_23_52, K_24_52, K_25_52, K_26_52, G_0_2_52, G_0_3_52, G_0_13_52, G_0_14_52, G_0_15_52, G_0_16_52, G_0_17_52, G_0_18_52, G_0_19_52, G_0_20_52, G_0_21_52, G_0_22_52, G_0_23_52, G_0_24_52, G_0_25_52, G_0_26_52, G_0_38_52, G_0_39_52, G_0_40_52, G_0_41_52, G_0_42_52, G_0_43_52, G_0_47_52, G_0_48_52, G_0_49_52, G_0_50_52⟩, R_0_52, R_1_52, R_2_52, R_3_52, R_4_52, R_5_52, R_6_52, R_7_52, R_8_52, R_9_52, R_10_52, R_11_52, R_12_52, R_13_52, R_14_52, R_15_52, R_16_52, R_17_52, R_18_52, R_19_52, R_20_52, R_21_52, R_22_52, R_23_52, R_24_52, R_25_52, R_26_52⟩
