/-! THE CHECKS: the code tables against the bytes, the words against the tables -/
theorem mCn_0 : mOwn 0 ≠ "java/lang/invoke/MethodHandle" ∧ mOwn 0 ≠ "java/lang/invoke/VarHandle" ∧ plainName (mOwn 0) = true := by decide +kernel
theorem mCn_1 : mOwn 1 ≠ "java/lang/invoke/MethodHandle" ∧ mOwn 1 ≠ "java/lang/invoke/VarHandle" ∧ plainName (mOwn 1) = true := by decide +kernel
theorem mCn_2 : mOwn 2 ≠ "java/lang/invoke/MethodHandle" ∧ mOwn 2 ≠ "java/lang/invoke/VarHandle" ∧ plainName (mOwn 2) = true := by decide +kernel
theorem mCn_3 : mOwn 3 ≠ "java/lang/invoke/MethodHandle" ∧ mOwn 3 ≠ "java/lang/invoke/VarHandle" ∧ plainName (mOwn 3) = true := by decide +kernel
theorem mCn_4 : mOwn 4 ≠ "java/lang/invoke/MethodHandle" ∧ mOwn 4 ≠ "java/lang/invoke/VarHandle" ∧ plainName (mOwn 4) = true := by decide +kernel
theorem mCn_5 : mOwn 5 ≠ "java/lang/invoke/MethodHandle" ∧ mOwn 5 ≠ "java/lang/invoke/VarHandle" ∧ plainName (mOwn 5) = true := by decide +kernel
theorem mCn_6 : mOwn 6 ≠ "java/lang/invoke/MethodHandle" ∧ mOwn 6 ≠ "java/lang/invoke/VarHandle" ∧ plainName (mOwn 6) = true := by decide +kernel
theorem mCn_7 : mOwn 7 ≠ "java/lang/invoke/MethodHandle" ∧ mOwn 7 ≠ "java/lang/invoke/VarHandle" ∧ plainName (mOwn 7) = true := by decide +kernel
theorem mCn_8 : mOwn 8 ≠ "java/lang/invoke/MethodHandle" ∧ mOwn 8 ≠ "java/lang/invoke/VarHandle" ∧ plainName (mOwn 8) = true := by decide +kernel
theorem mCn_9 : mOwn 9 ≠ "java/lang/invoke/MethodHandle" ∧ mOwn 9 ≠ "java/lang/invoke/VarHandle" ∧ plainName (mOwn 9) = true := by decide +kernel
theorem mCn_10 : mOwn 10 ≠ "java/lang/invoke/MethodHandle" ∧ mOwn 10 ≠ "java/lang/invoke/VarHandle" ∧ plainName (mOwn 10) = true := by decide +kernel
theorem mCn_11 : mOwn 11 ≠ "java/lang/invoke/MethodHandle" ∧ mOwn 11 ≠ "java/lang/invoke/VarHandle" ∧ plainName (mOwn 11) = true := by decide +kernel
theorem mDs_0 : (parseMethodDescriptor "()I").map (fun d => d.parameters.length) = some 0 := by decide +kernel
theorem mDs_1 : (parseMethodDescriptor "()V").map (fun d => d.parameters.length) = some 0 := by decide +kernel
theorem mDs_2 : (parseMethodDescriptor "()Z").map (fun d => d.parameters.length) = some 0 := by decide +kernel
theorem mDs_3 : (parseMethodDescriptor "(B)Z").map (fun d => d.parameters.length) = some 1 := by decide +kernel
theorem mDs_4 : (parseMethodDescriptor "(I)I").map (fun d => d.parameters.length) = some 1 := by decide +kernel
theorem mDs_5 : (parseMethodDescriptor "(I)V").map (fun d => d.parameters.length) = some 1 := by decide +kernel
theorem mDs_6 : (parseMethodDescriptor "(I)Z").map (fun d => d.parameters.length) = some 1 := by decide +kernel
theorem mDs_7 : (parseMethodDescriptor "(II)I").map (fun d => d.parameters.length) = some 2 := by decide +kernel
theorem mDs_8 : (parseMethodDescriptor "(II)V").map (fun d => d.parameters.length) = some 2 := by decide +kernel
theorem mDs_9 : (parseMethodDescriptor "(II)Z").map (fun d => d.parameters.length) = some 2 := by decide +kernel
theorem mDs_10 : (parseMethodDescriptor "(III)I").map (fun d => d.parameters.length) = some 3 := by decide +kernel
theorem mDs_11 : (parseMethodDescriptor "(III)V").map (fun d => d.parameters.length) = some 3 := by decide +kernel
theorem mDs_12 : (parseMethodDescriptor "(III)Z").map (fun d => d.parameters.length) = some 3 := by decide +kernel
theorem mDs_13 : (parseMethodDescriptor "(IIII)I").map (fun d => d.parameters.length) = some 4 := by decide +kernel
theorem mDs_14 : (parseMethodDescriptor "(IIII)V").map (fun d => d.parameters.length) = some 4 := by decide +kernel
theorem mDs_15 : (parseMethodDescriptor "(IIII)Z").map (fun d => d.parameters.length) = some 4 := by decide +kernel
theorem mDs_16 : (parseMethodDescriptor "(IIIII)I").map (fun d => d.parameters.length) = some 5 := by decide +kernel
theorem mDs_17 : (parseMethodDescriptor "(IIIII)V").map (fun d => d.parameters.length) = some 5 := by decide +kernel
theorem mDs_18 : (parseMethodDescriptor "(IIIIIIZ)V").map (fun d => d.parameters.length) = some 7 := by decide +kernel
theorem mDs_19 : (parseMethodDescriptor "(IIIZ)V").map (fun d => d.parameters.length) = some 4 := by decide +kernel
theorem mDs_20 : (parseMethodDescriptor "(IIZ)V").map (fun d => d.parameters.length) = some 3 := by decide +kernel
theorem mDs_21 : (parseMethodDescriptor "(ILMeetingMachines$Diary;)V").map (fun d => d.parameters.length) = some 2 := by decide +kernel
theorem mDs_22 : (parseMethodDescriptor "(IZ)V").map (fun d => d.parameters.length) = some 2 := by decide +kernel
theorem mDs_23 : (parseMethodDescriptor "(LMeetingMachines$Diary;)V").map (fun d => d.parameters.length) = some 1 := by decide +kernel
theorem mDs_24 : (parseMethodDescriptor "(LMeetingMachines$Link;)V").map (fun d => d.parameters.length) = some 1 := by decide +kernel
theorem mDs_25 : (parseMethodDescriptor "(LMeetingMachines$Link;I)V").map (fun d => d.parameters.length) = some 2 := by decide +kernel
theorem mDs_26 : (parseMethodDescriptor "(LMeetingMachines$Machine;)V").map (fun d => d.parameters.length) = some 1 := by decide +kernel
theorem mDs_27 : (parseMethodDescriptor "(LMeetingMachines$Program;)V").map (fun d => d.parameters.length) = some 1 := by decide +kernel
theorem mDs_28 : (parseMethodDescriptor "(LMeetingMachines$Program;)Z").map (fun d => d.parameters.length) = some 1 := by decide +kernel
theorem mDs_29 : (parseMethodDescriptor "(LMeetingMachines$Program;I)V").map (fun d => d.parameters.length) = some 2 := by decide +kernel
theorem mDs_30 : (parseMethodDescriptor "(LMeetingMachines$Program;I)Z").map (fun d => d.parameters.length) = some 2 := by decide +kernel
theorem mDs_31 : (parseMethodDescriptor "(LMeetingMachines$Program;IZ)V").map (fun d => d.parameters.length) = some 3 := by decide +kernel
theorem mDs_32 : (parseMethodDescriptor "(LMeetingMachines$Program;Z)V").map (fun d => d.parameters.length) = some 2 := by decide +kernel
theorem mDs_33 : (parseMethodDescriptor "(LMeetingMachines$Timers;)V").map (fun d => d.parameters.length) = some 1 := by decide +kernel
theorem mDs_34 : (parseMethodDescriptor "(LMeetingMachines$World;)I").map (fun d => d.parameters.length) = some 1 := by decide +kernel
theorem mDs_35 : (parseMethodDescriptor "(LMeetingMachines$World;)V").map (fun d => d.parameters.length) = some 1 := by decide +kernel
theorem mDs_36 : (parseMethodDescriptor "(Ljava/lang/String;I)I").map (fun d => d.parameters.length) = some 2 := by decide +kernel
theorem mDs_37 : (parseMethodDescriptor "(Z)V").map (fun d => d.parameters.length) = some 1 := by decide +kernel
theorem mDs_38 : (parseMethodDescriptor "(Z)Z").map (fun d => d.parameters.length) = some 1 := by decide +kernel
theorem mDs_39 : (parseMethodDescriptor "(ZIII)Z").map (fun d => d.parameters.length) = some 4 := by decide +kernel
theorem mDs_40 : (parseMethodDescriptor "(ZIIII)V").map (fun d => d.parameters.length) = some 5 := by decide +kernel
theorem mDs_41 : (parseMethodDescriptor "([BILMeetingMachines$Program;)I").map (fun d => d.parameters.length) = some 3 := by decide +kernel
theorem mDs_42 : (parseMethodDescriptor "([II)V").map (fun d => d.parameters.length) = some 2 := by decide +kernel
theorem mDs_43 : (parseMethodDescriptor "([ZI)I").map (fun d => d.parameters.length) = some 2 := by decide +kernel
theorem mMk_0 : mMok 0 (mNa 0) := ⟨mW_in (p := 267) rfl rfl, mW_in (p := 10) rfl rfl, ⟨mCn_0.1, mCn_0.2.1, mDs_1⟩, by decide, mCn_0.2.2, ⟨mW_in (p := 266) rfl rfl, rfl, rfl⟩, rfl⟩
theorem mCc_0 : (kX0_init.all (fun bk => mChkB 0 true cX0_init (mBp kX0_init) bk.1 bk.2) && decide (mBp kX0_init 0 = 0)) = true := by decide +kernel
theorem mCh_0 : mChkM 0 = true := mCc_0
theorem mMk_1 : mMok 1 (mNa 1) := ⟨mW_in (p := 457) rfl rfl, mW_in (p := 10) rfl rfl, ⟨mCn_0.1, mCn_0.2.1, mDs_1⟩, by decide, mCn_0.2.2, ⟨mW_in (p := 455) rfl rfl, mW_in (p := 456) rfl rfl⟩, rfl⟩
theorem mCc_1 : (kX0_empty.all (fun bk => mChkB 0 false cX0_empty (mBp kX0_empty) bk.1 bk.2) && decide (mBp kX0_empty 0 = 0)) = true := by decide +kernel
theorem mCh_1 : mChkM 1 = true := mCc_1
theorem mMk_2 : mMok 2 (mNa 2) := ⟨mW_in (p := 908) rfl rfl, mW_in (p := 10) rfl rfl, ⟨mCn_0.1, mCn_0.2.1, mDs_17⟩, by decide, mCn_0.2.2, ⟨mW_in (p := 906) rfl rfl, mW_in (p := 907) rfl rfl⟩, rfl⟩
theorem mCc_2 : (kX0_note.all (fun bk => mChkB 0 false cX0_note (mBp kX0_note) bk.1 bk.2) && decide (mBp kX0_note 0 = 0)) = true := by decide +kernel
theorem mCh_2 : mChkM 2 = true := mCc_2
theorem mMk_3 : mMok 3 (mNa 3) := ⟨mW_in (p := 1073) rfl rfl, mW_in (p := 10) rfl rfl, ⟨mCn_0.1, mCn_0.2.1, mDs_7⟩, by decide, mCn_0.2.2, ⟨mW_in (p := 1071) rfl rfl, mW_in (p := 1072) rfl rfl⟩, rfl⟩
theorem mCc_3 : (kX0_tell.all (fun bk => mChkB 0 false cX0_tell (mBp kX0_tell) bk.1 bk.2) && decide (mBp kX0_tell 0 = 0)) = true := by decide +kernel
theorem mCh_3 : mChkM 3 = true := mCc_3
theorem mMk_4 : mMok 4 (mNa 4) := ⟨mW_in (p := 736) rfl rfl, mW_in (p := 10) rfl rfl, ⟨mCn_0.1, mCn_0.2.1, mDs_23⟩, by decide, mCn_0.2.2, ⟨mW_in (p := 734) rfl rfl, mW_in (p := 735) rfl rfl⟩, rfl⟩
theorem mCc_4 : (kX0_copy.all (fun bk => mChkB 0 false cX0_copy (mBp kX0_copy) bk.1 bk.2) && decide (mBp kX0_copy 0 = 0)) = true := by decide +kernel
theorem mCh_4 : mChkM 4 = true := mCc_4
theorem mMk_5 : mMok 5 (mNa 5) := ⟨mW_in (p := 412) rfl rfl, mW_in (p := 14) rfl rfl, ⟨mCn_1.1, mCn_1.2.1, mDs_1⟩, by decide, mCn_1.2.2, ⟨mW_in (p := 411) rfl rfl, rfl, rfl⟩, rfl⟩
theorem mCc_5 : (kX1_init.all (fun bk => mChkB 1 true cX1_init (mBp kX1_init) bk.1 bk.2) && decide (mBp kX1_init 0 = 0)) = true := by decide +kernel
theorem mCh_5 : mChkM 5 = true := mCc_5
theorem mMk_6 : mMok 6 (mNa 6) := ⟨mW_in (p := 679) rfl rfl, mW_in (p := 14) rfl rfl, ⟨mCn_1.1, mCn_1.2.1, mDs_1⟩, by decide, mCn_1.2.2, ⟨mW_in (p := 677) rfl rfl, mW_in (p := 678) rfl rfl⟩, rfl⟩
theorem mCc_6 : (kX1_forget.all (fun bk => mChkB 1 false cX1_forget (mBp kX1_forget) bk.1 bk.2) && decide (mBp kX1_forget 0 = 0)) = true := by decide +kernel
theorem mCh_6 : mChkM 6 = true := mCc_6
theorem mMk_7 : mMok 7 (mNa 7) := ⟨mW_in (p := 728) rfl rfl, mW_in (p := 14) rfl rfl, ⟨mCn_1.1, mCn_1.2.1, mDs_35⟩, by decide, mCn_1.2.2, ⟨mW_in (p := 726) rfl rfl, mW_in (p := 727) rfl rfl⟩, rfl⟩
theorem mCc_7 : (kX1_remember.all (fun bk => mChkB 1 false cX1_remember (mBp kX1_remember) bk.1 bk.2) && decide (mBp kX1_remember 0 = 0)) = true := by decide +kernel
theorem mCh_7 : mChkM 7 = true := mCc_7
theorem mMk_8 : mMok 8 (mNa 8) := ⟨mW_in (p := 1033) rfl rfl, mW_in (p := 14) rfl rfl, ⟨mCn_1.1, mCn_1.2.1, mDs_34⟩, by decide, mCn_1.2.2, ⟨mW_in (p := 1031) rfl rfl, mW_in (p := 1032) rfl rfl⟩, rfl⟩
theorem mCc_8 : (kX1_recall.all (fun bk => mChkB 1 false cX1_recall (mBp kX1_recall) bk.1 bk.2) && decide (mBp kX1_recall 0 = 0)) = true := by decide +kernel
theorem mCh_8 : mChkM 8 = true := mCc_8
theorem mMk_9 : mMok 9 (mNa 9) := ⟨mW_in (p := 318) rfl rfl, mW_in (p := 13) rfl rfl, ⟨mCn_2.1, mCn_2.2.1, mDs_1⟩, by decide, mCn_2.2.2, ⟨mW_in (p := 317) rfl rfl, rfl, rfl⟩, rfl⟩
theorem mCc_9 : (kX2_init.all (fun bk => mChkB 2 true cX2_init (mBp kX2_init) bk.1 bk.2) && decide (mBp kX2_init 0 = 0)) = true := by decide +kernel
theorem mCh_9 : mChkM 9 = true := mCc_9
theorem mMk_10 : mMok 10 (mNa 10) := ⟨mW_in (p := 469) rfl rfl, mW_in (p := 13) rfl rfl, ⟨mCn_2.1, mCn_2.2.1, mDs_1⟩, by decide, mCn_2.2.2, ⟨mW_in (p := 467) rfl rfl, mW_in (p := 468) rfl rfl⟩, rfl⟩
theorem mCc_10 : (kX2_empty.all (fun bk => mChkB 2 false cX2_empty (mBp kX2_empty) bk.1 bk.2) && decide (mBp kX2_empty 0 = 0)) = true := by decide +kernel
theorem mCh_10 : mChkM 10 = true := mCc_10
theorem mMk_11 : mMok 11 (mNa 11) := ⟨mW_in (p := 477) rfl rfl, mW_in (p := 13) rfl rfl, ⟨mCn_2.1, mCn_2.2.1, mDs_11⟩, by decide, mCn_2.2.2, ⟨mW_in (p := 475) rfl rfl, mW_in (p := 476) rfl rfl⟩, rfl⟩
theorem mCc_11 : (kX2_beginSending.all (fun bk => mChkB 2 false cX2_beginSending (mBp kX2_beginSending) bk.1 bk.2) && decide (mBp kX2_beginSending 0 = 0)) = true := by decide +kernel
theorem mCh_11 : mChkM 11 = true := mCc_11
theorem mMk_12 : mMok 12 (mNa 12) := ⟨mW_in (p := 473) rfl rfl, mW_in (p := 13) rfl rfl, ⟨mCn_2.1, mCn_2.2.1, mDs_1⟩, by decide, mCn_2.2.2, ⟨mW_in (p := 471) rfl rfl, mW_in (p := 472) rfl rfl⟩, rfl⟩
theorem mCc_12 : (kX2_endSending.all (fun bk => mChkB 2 false cX2_endSending (mBp kX2_endSending) bk.1 bk.2) && decide (mBp kX2_endSending 0 = 0)) = true := by decide +kernel
theorem mCh_12 : mChkM 12 = true := mCc_12
theorem mMk_13 : mMok 13 (mNa 13) := ⟨mW_in (p := 485) rfl rfl, mW_in (p := 13) rfl rfl, ⟨mCn_2.1, mCn_2.2.1, mDs_11⟩, by decide, mCn_2.2.2, ⟨mW_in (p := 483) rfl rfl, mW_in (p := 484) rfl rfl⟩, rfl⟩
theorem mCc_13 : (kX2_beginReceiving.all (fun bk => mChkB 2 false cX2_beginReceiving (mBp kX2_beginReceiving) bk.1 bk.2) && decide (mBp kX2_beginReceiving 0 = 0)) = true := by decide +kernel
theorem mCh_13 : mChkM 13 = true := mCc_13
theorem mMk_14 : mMok 14 (mNa 14) := ⟨mW_in (p := 481) rfl rfl, mW_in (p := 13) rfl rfl, ⟨mCn_2.1, mCn_2.2.1, mDs_1⟩, by decide, mCn_2.2.2, ⟨mW_in (p := 479) rfl rfl, mW_in (p := 480) rfl rfl⟩, rfl⟩
theorem mCc_14 : (kX2_endReceiving.all (fun bk => mChkB 2 false cX2_endReceiving (mBp kX2_endReceiving) bk.1 bk.2) && decide (mBp kX2_endReceiving 0 = 0)) = true := by decide +kernel
theorem mCh_14 : mChkM 14 = true := mCc_14
theorem mMk_15 : mMok 15 (mNa 15) := ⟨mW_in (p := 993) rfl rfl, mW_in (p := 13) rfl rfl, ⟨mCn_2.1, mCn_2.2.1, mDs_2⟩, by decide, mCn_2.2.2, ⟨mW_in (p := 991) rfl rfl, mW_in (p := 992) rfl rfl⟩, rfl⟩
theorem mCc_15 : (kX2_hasToSend.all (fun bk => mChkB 2 false cX2_hasToSend (mBp kX2_hasToSend) bk.1 bk.2) && decide (mBp kX2_hasToSend 0 = 0)) = true := by decide +kernel
theorem mCh_15 : mChkM 15 = true := mCc_15
theorem mMk_16 : mMok 16 (mNa 16) := ⟨mW_in (p := 1001) rfl rfl, mW_in (p := 13) rfl rfl, ⟨mCn_2.1, mCn_2.2.1, mDs_2⟩, by decide, mCn_2.2.2, ⟨mW_in (p := 999) rfl rfl, mW_in (p := 1000) rfl rfl⟩, rfl⟩
theorem mCc_16 : (kX2_canReceive.all (fun bk => mChkB 2 false cX2_canReceive (mBp kX2_canReceive) bk.1 bk.2) && decide (mBp kX2_canReceive 0 = 0)) = true := by decide +kernel
theorem mCh_16 : mChkM 16 = true := mCc_16
theorem mMk_17 : mMok 17 (mNa 17) := ⟨mW_in (p := 1065) rfl rfl, mW_in (p := 13) rfl rfl, ⟨mCn_2.1, mCn_2.2.1, mDs_4⟩, by decide, mCn_2.2.2, ⟨mW_in (p := 1063) rfl rfl, mW_in (p := 1064) rfl rfl⟩, rfl⟩
theorem mCc_17 : (kX2_tell.all (fun bk => mChkB 2 false cX2_tell (mBp kX2_tell) bk.1 bk.2) && decide (mBp kX2_tell 0 = 0)) = true := by decide +kernel
theorem mCh_17 : mChkM 17 = true := mCc_17
theorem mMk_18 : mMok 18 (mNa 18) := ⟨mW_in (p := 750) rfl rfl, mW_in (p := 13) rfl rfl, ⟨mCn_2.1, mCn_2.2.1, mDs_24⟩, by decide, mCn_2.2.2, ⟨mW_in (p := 748) rfl rfl, mW_in (p := 749) rfl rfl⟩, rfl⟩
theorem mCc_18 : (kX2_copy.all (fun bk => mChkB 2 false cX2_copy (mBp kX2_copy) bk.1 bk.2) && decide (mBp kX2_copy 0 = 0)) = true := by decide +kernel
theorem mCh_18 : mChkM 18 = true := mCc_18
theorem mMk_19 : mMok 19 (mNa 19) := ⟨mW_in (p := 287) rfl rfl, mW_in (p := 11) rfl rfl, ⟨mCn_3.1, mCn_3.2.1, mDs_21⟩, by decide, mCn_3.2.2, ⟨mW_in (p := 286) rfl rfl, rfl, rfl⟩, rfl⟩
theorem mCc_19 : (kX3_init.all (fun bk => mChkB 3 true cX3_init (mBp kX3_init) bk.1 bk.2) && decide (mBp kX3_init 0 = 0)) = true := by decide +kernel
theorem mCh_19 : mChkM 19 = true := mCc_19
theorem mMk_20 : mMok 20 (mNa 20) := ⟨mW_in (p := 461) rfl rfl, mW_in (p := 11) rfl rfl, ⟨mCn_3.1, mCn_3.2.1, mDs_27⟩, by decide, mCn_3.2.2, ⟨mW_in (p := 459) rfl rfl, mW_in (p := 460) rfl rfl⟩, rfl⟩
theorem mCc_20 : (kX3_begin.all (fun bk => mChkB 3 false cX3_begin (mBp kX3_begin) bk.1 bk.2) && decide (mBp kX3_begin 0 = 0)) = true := by decide +kernel
theorem mCh_20 : mChkM 20 = true := mCc_20
theorem mMk_21 : mMok 21 (mNa 21) := ⟨mW_in (p := 741) rfl rfl, mW_in (p := 11) rfl rfl, ⟨mCn_3.1, mCn_3.2.1, mDs_26⟩, by decide, mCn_3.2.2, ⟨mW_in (p := 739) rfl rfl, mW_in (p := 740) rfl rfl⟩, rfl⟩
theorem mCc_21 : (kX3_copy.all (fun bk => mChkB 3 false cX3_copy (mBp kX3_copy) bk.1 bk.2) && decide (mBp kX3_copy 0 = 0)) = true := by decide +kernel
theorem mCh_21 : mChkM 21 = true := mCc_21
theorem mMk_22 : mMok 22 (mNa 22) := ⟨mW_in (p := 489) rfl rfl, mW_in (p := 11) rfl rfl, ⟨mCn_3.1, mCn_3.2.1, mDs_11⟩, by decide, mCn_3.2.2, ⟨mW_in (p := 487) rfl rfl, mW_in (p := 488) rfl rfl⟩, rfl⟩
theorem mCc_22 : (kX3_beginProcess.all (fun bk => mChkB 3 false cX3_beginProcess (mBp kX3_beginProcess) bk.1 bk.2) && decide (mBp kX3_beginProcess 0 = 0)) = true := by decide +kernel
theorem mCh_22 : mChkM 22 = true := mCc_22
theorem mMk_23 : mMok 23 (mNa 23) := ⟨mW_in (p := 791) rfl rfl, mW_in (p := 11) rfl rfl, ⟨mCn_3.1, mCn_3.2.1, mDs_2⟩, by decide, mCn_3.2.2, ⟨mW_in (p := 789) rfl rfl, mW_in (p := 790) rfl rfl⟩, rfl⟩
theorem mCc_23 : (kX3_isHalted.all (fun bk => mChkB 3 false cX3_isHalted (mBp kX3_isHalted) bk.1 bk.2) && decide (mBp kX3_isHalted 0 = 0)) = true := by decide +kernel
theorem mCh_23 : mChkM 23 = true := mCc_23
theorem mMk_24 : mMok 24 (mNa 24) := ⟨mW_in (p := 1086) rfl rfl, mW_in (p := 11) rfl rfl, ⟨mCn_3.1, mCn_3.2.1, mDs_2⟩, by decide, mCn_3.2.2, ⟨mW_in (p := 1084) rfl rfl, mW_in (p := 1085) rfl rfl⟩, rfl⟩
theorem mCc_24 : (kX3_isAtRest.all (fun bk => mChkB 3 false cX3_isAtRest (mBp kX3_isAtRest) bk.1 bk.2) && decide (mBp kX3_isAtRest 0 = 0)) = true := by decide +kernel
theorem mCh_24 : mChkM 24 = true := mCc_24
theorem mMk_25 : mMok 25 (mNa 25) := ⟨mW_in (p := 813) rfl rfl, mW_in (p := 11) rfl rfl, ⟨mCn_3.1, mCn_3.2.1, mDs_2⟩, by decide, mCn_3.2.2, ⟨mW_in (p := 812) rfl rfl, mPriv_in (i := 23) (q := (_, _)) rfl⟩, rfl⟩
theorem mCc_25 : (kX3_isRunning.all (fun bk => mChkB 3 false cX3_isRunning (mBp kX3_isRunning) bk.1 bk.2) && decide (mBp kX3_isRunning 0 = 0)) = true := by decide +kernel
theorem mCh_25 : mChkM 25 = true := mCc_25
theorem mMk_26 : mMok 26 (mNa 26) := ⟨mW_in (p := 855) rfl rfl, mW_in (p := 11) rfl rfl, ⟨mCn_3.1, mCn_3.2.1, mDs_0⟩, by decide, mCn_3.2.2, ⟨mW_in (p := 854) rfl rfl, mPriv_in (i := 33) (q := (_, _)) rfl⟩, rfl⟩
theorem mCc_26 : (kX3_own.all (fun bk => mChkB 3 false cX3_own (mBp kX3_own) bk.1 bk.2) && decide (mBp kX3_own 0 = 0)) = true := by decide +kernel
theorem mCh_26 : mChkM 26 = true := mCc_26
theorem mMk_27 : mMok 27 (mNa 27) := ⟨mW_in (p := 1041) rfl rfl, mW_in (p := 11) rfl rfl, ⟨mCn_3.1, mCn_3.2.1, mDs_4⟩, by decide, mCn_3.2.2, ⟨mW_in (p := 1039) rfl rfl, mW_in (p := 1040) rfl rfl⟩, rfl⟩
theorem mCc_27 : (kX3_tell.all (fun bk => mChkB 3 false cX3_tell (mBp kX3_tell) bk.1 bk.2) && decide (mBp kX3_tell 0 = 0)) = true := by decide +kernel
theorem mCh_27 : mChkM 27 = true := mCc_27
theorem mMk_28 : mMok 28 (mNa 28) := ⟨mW_in (p := 1049) rfl rfl, mW_in (p := 11) rfl rfl, ⟨mCn_3.1, mCn_3.2.1, mDs_7⟩, by decide, mCn_3.2.2, ⟨mW_in (p := 1047) rfl rfl, mW_in (p := 1048) rfl rfl⟩, rfl⟩
theorem mCc_28 : (kX3_inQueue.all (fun bk => mChkB 3 false cX3_inQueue (mBp kX3_inQueue) bk.1 bk.2) && decide (mBp kX3_inQueue 0 = 0)) = true := by decide +kernel
theorem mCh_28 : mChkM 28 = true := mCc_28
theorem mMk_29 : mMok 29 (mNa 29) := ⟨mW_in (p := 804) rfl rfl, mW_in (p := 11) rfl rfl, ⟨mCn_3.1, mCn_3.2.1, mDs_29⟩, by decide, mCn_3.2.2, ⟨mW_in (p := 802) rfl rfl, mW_in (p := 803) rfl rfl⟩, rfl⟩
theorem mCc_29 : (kX3_pass.all (fun bk => mChkB 3 false cX3_pass (mBp kX3_pass) bk.1 bk.2) && decide (mBp kX3_pass 0 = 0)) = true := by decide +kernel
theorem mCh_29 : mChkM 29 = true := mCc_29
theorem mMk_30 : mMok 30 (mNa 30) := ⟨mW_in (p := 809) rfl rfl, mW_in (p := 11) rfl rfl, ⟨mCn_3.1, mCn_3.2.1, mDs_2⟩, by decide, mCn_3.2.2, ⟨mW_in (p := 808) rfl rfl, mPriv_in (i := 22) (q := (_, _)) rfl⟩, rfl⟩
theorem mCc_30 : (kX3_chooseWhoRuns.all (fun bk => mChkB 3 false cX3_chooseWhoRuns (mBp kX3_chooseWhoRuns) bk.1 bk.2) && decide (mBp kX3_chooseWhoRuns 0 = 0)) = true := by decide +kernel
theorem mCh_30 : mChkM 30 = true := mCc_30
theorem mMk_31 : mMok 31 (mNa 31) := ⟨mW_in (p := 817) rfl rfl, mW_in (p := 11) rfl rfl, ⟨mCn_3.1, mCn_3.2.1, mDs_6⟩, by decide, mCn_3.2.2, ⟨mW_in (p := 816) rfl rfl, mPriv_in (i := 24) (q := (_, _)) rfl⟩, rfl⟩
theorem mCc_31 : (kX3_take.all (fun bk => mChkB 3 false cX3_take (mBp kX3_take) bk.1 bk.2) && decide (mBp kX3_take 0 = 0)) = true := by decide +kernel
theorem mCh_31 : mChkM 31 = true := mCc_31
theorem mMk_32 : mMok 32 (mNa 32) := ⟨mW_in (p := 980) rfl rfl, mW_in (p := 11) rfl rfl, ⟨mCn_3.1, mCn_3.2.1, mDs_1⟩, by decide, mCn_3.2.2, ⟨mW_in (p := 979) rfl rfl, mPriv_in (i := 56) (q := (_, _)) rfl⟩, rfl⟩
theorem mCc_32 : (kX3_endWaits.all (fun bk => mChkB 3 false cX3_endWaits (mBp kX3_endWaits) bk.1 bk.2) && decide (mBp kX3_endWaits 0 = 0)) = true := by decide +kernel
theorem mCh_32 : mChkM 32 = true := mCc_32
theorem mMk_33 : mMok 33 (mNa 33) := ⟨mW_in (p := 984) rfl rfl, mW_in (p := 11) rfl rfl, ⟨mCn_3.1, mCn_3.2.1, mDs_5⟩, by decide, mCn_3.2.2, ⟨mW_in (p := 983) rfl rfl, mPriv_in (i := 57) (q := (_, _)) rfl⟩, rfl⟩
theorem mCc_33 : (kX3_endWait.all (fun bk => mChkB 3 false cX3_endWait (mBp kX3_endWait) bk.1 bk.2) && decide (mBp kX3_endWait 0 = 0)) = true := by decide +kernel
theorem mCh_33 : mChkM 33 = true := mCc_33
theorem mMk_34 : mMok 34 (mNa 34) := ⟨mW_in (p := 493) rfl rfl, mW_in (p := 11) rfl rfl, ⟨mCn_3.1, mCn_3.2.1, mDs_5⟩, by decide, mCn_3.2.2, ⟨mW_in (p := 491) rfl rfl, mW_in (p := 492) rfl rfl⟩, rfl⟩
theorem mCc_34 : (kX3_schedule.all (fun bk => mChkB 3 false cX3_schedule (mBp kX3_schedule) bk.1 bk.2) && decide (mBp kX3_schedule 0 = 0)) = true := by decide +kernel
theorem mCh_34 : mChkM 34 = true := mCc_34
theorem mMk_35 : mMok 35 (mNa 35) := ⟨mW_in (p := 859) rfl rfl, mW_in (p := 11) rfl rfl, ⟨mCn_3.1, mCn_3.2.1, mDs_1⟩, by decide, mCn_3.2.2, ⟨mW_in (p := 858) rfl rfl, mPriv_in (i := 34) (q := (_, _)) rfl⟩, rfl⟩
theorem mCc_35 : (kX3_goOff.all (fun bk => mChkB 3 false cX3_goOff (mBp kX3_goOff) bk.1 bk.2) && decide (mBp kX3_goOff 0 = 0)) = true := by decide +kernel
theorem mCh_35 : mChkM 35 = true := mCc_35
theorem mMk_36 : mMok 36 (mNa 36) := ⟨mW_in (p := 821) rfl rfl, mW_in (p := 11) rfl rfl, ⟨mCn_3.1, mCn_3.2.1, mDs_1⟩, by decide, mCn_3.2.2, ⟨mW_in (p := 820) rfl rfl, mPriv_in (i := 25) (q := (_, _)) rfl⟩, rfl⟩
theorem mCc_36 : (kX3_clear.all (fun bk => mChkB 3 false cX3_clear (mBp kX3_clear) bk.1 bk.2) && decide (mBp kX3_clear 0 = 0)) = true := by decide +kernel
theorem mCh_36 : mChkM 36 = true := mCc_36
theorem mMk_37 : mMok 37 (mNa 37) := ⟨mW_in (p := 833) rfl rfl, mW_in (p := 11) rfl rfl, ⟨mCn_3.1, mCn_3.2.1, mDs_5⟩, by decide, mCn_3.2.2, ⟨mW_in (p := 832) rfl rfl, mPriv_in (i := 28) (q := (_, _)) rfl⟩, rfl⟩
theorem mCc_37 : (kX3_push.all (fun bk => mChkB 3 false cX3_push (mBp kX3_push) bk.1 bk.2) && decide (mBp kX3_push 0 = 0)) = true := by decide +kernel
theorem mCh_37 : mChkM 37 = true := mCc_37
theorem mMk_38 : mMok 38 (mNa 38) := ⟨mW_in (p := 846) rfl rfl, mW_in (p := 11) rfl rfl, ⟨mCn_3.1, mCn_3.2.1, mDs_1⟩, by decide, mCn_3.2.2, ⟨mW_in (p := 845) rfl rfl, mPriv_in (i := 31) (q := (_, _)) rfl⟩, rfl⟩
theorem mCc_38 : (kX3_pop.all (fun bk => mChkB 3 false cX3_pop (mBp kX3_pop) bk.1 bk.2) && decide (mBp kX3_pop 0 = 0)) = true := by decide +kernel
theorem mCh_38 : mChkM 38 = true := mCc_38
theorem mMk_39 : mMok 39 (mNa 39) := ⟨mW_in (p := 825) rfl rfl, mW_in (p := 11) rfl rfl, ⟨mCn_3.1, mCn_3.2.1, mDs_30⟩, by decide, mCn_3.2.2, ⟨mW_in (p := 824) rfl rfl, mPriv_in (i := 26) (q := (_, _)) rfl⟩, rfl⟩
theorem mCc_39 : (kX3_perform.all (fun bk => mChkB 3 false cX3_perform (mBp kX3_perform) bk.1 bk.2) && decide (mBp kX3_perform 0 = 0)) = true := by decide +kernel
theorem mCh_39 : mChkM 39 = true := mCc_39
theorem mMk_40 : mMok 40 (mNa 40) := ⟨mW_in (p := 829) rfl rfl, mW_in (p := 11) rfl rfl, ⟨mCn_3.1, mCn_3.2.1, mDs_12⟩, by decide, mCn_3.2.2, ⟨mW_in (p := 828) rfl rfl, mPriv_in (i := 27) (q := (_, _)) rfl⟩, rfl⟩
theorem mCc_40 : (kX3_performTold.all (fun bk => mChkB 3 false cX3_performTold (mBp kX3_performTold) bk.1 bk.2) && decide (mBp kX3_performTold 0 = 0)) = true := by decide +kernel
theorem mCh_40 : mChkM 40 = true := mCc_40
theorem mMk_41 : mMok 41 (mNa 41) := ⟨mW_in (p := 837) rfl rfl, mW_in (p := 11) rfl rfl, ⟨mCn_3.1, mCn_3.2.1, mDs_6⟩, by decide, mCn_3.2.2, ⟨mW_in (p := 836) rfl rfl, mPriv_in (i := 29) (q := (_, _)) rfl⟩, rfl⟩
theorem mCc_41 : (kX3_pushWord.all (fun bk => mChkB 3 false cX3_pushWord (mBp kX3_pushWord) bk.1 bk.2) && decide (mBp kX3_pushWord 0 = 0)) = true := by decide +kernel
theorem mCh_41 : mChkM 41 = true := mCc_41
theorem mMk_42 : mMok 42 (mNa 42) := ⟨mW_in (p := 842) rfl rfl, mW_in (p := 11) rfl rfl, ⟨mCn_3.1, mCn_3.2.1, mDs_6⟩, by decide, mCn_3.2.2, ⟨mW_in (p := 841) rfl rfl, mPriv_in (i := 30) (q := (_, _)) rfl⟩, rfl⟩
theorem mCc_42 : (kX3_popWord.all (fun bk => mChkB 3 false cX3_popWord (mBp kX3_popWord) bk.1 bk.2) && decide (mBp kX3_popWord 0 = 0)) = true := by decide +kernel
theorem mCh_42 : mChkM 42 = true := mCc_42
theorem mMk_43 : mMok 43 (mNa 43) := ⟨mW_in (p := 851) rfl rfl, mW_in (p := 11) rfl rfl, ⟨mCn_3.1, mCn_3.2.1, mDs_8⟩, by decide, mCn_3.2.2, ⟨mW_in (p := 850) rfl rfl, mPriv_in (i := 32) (q := (_, _)) rfl⟩, rfl⟩
theorem mCc_43 : (kX3_jump.all (fun bk => mChkB 3 false cX3_jump (mBp kX3_jump) bk.1 bk.2) && decide (mBp kX3_jump 0 = 0)) = true := by decide +kernel
theorem mCh_43 : mChkM 43 = true := mCc_43
theorem mMk_44 : mMok 44 (mNa 44) := ⟨mW_in (p := 863) rfl rfl, mW_in (p := 11) rfl rfl, ⟨mCn_3.1, mCn_3.2.1, mDs_6⟩, by decide, mCn_3.2.2, ⟨mW_in (p := 862) rfl rfl, mPriv_in (i := 35) (q := (_, _)) rfl⟩, rfl⟩
theorem mCc_44 : (kX3_performOnWords.all (fun bk => mChkB 3 false cX3_performOnWords (mBp kX3_performOnWords) bk.1 bk.2) && decide (mBp kX3_performOnWords 0 = 0)) = true := by decide +kernel
theorem mCh_44 : mChkM 44 = true := mCc_44
theorem mMk_45 : mMok 45 (mNa 45) := ⟨mW_in (p := 867) rfl rfl, mW_in (p := 11) rfl rfl, ⟨mCn_3.1, mCn_3.2.1, mDs_2⟩, by decide, mCn_3.2.2, ⟨mW_in (p := 866) rfl rfl, mPriv_in (i := 36) (q := (_, _)) rfl⟩, rfl⟩
theorem mCc_45 : (kX3_load.all (fun bk => mChkB 3 false cX3_load (mBp kX3_load) bk.1 bk.2) && decide (mBp kX3_load 0 = 0)) = true := by decide +kernel
theorem mCh_45 : mChkM 45 = true := mCc_45
theorem mMk_46 : mMok 46 (mNa 46) := ⟨mW_in (p := 871) rfl rfl, mW_in (p := 11) rfl rfl, ⟨mCn_3.1, mCn_3.2.1, mDs_2⟩, by decide, mCn_3.2.2, ⟨mW_in (p := 870) rfl rfl, mPriv_in (i := 37) (q := (_, _)) rfl⟩, rfl⟩
theorem mCc_46 : (kX3_store.all (fun bk => mChkB 3 false cX3_store (mBp kX3_store) bk.1 bk.2) && decide (mBp kX3_store 0 = 0)) = true := by decide +kernel
theorem mCh_46 : mChkM 46 = true := mCc_46
theorem mMk_47 : mMok 47 (mNa 47) := ⟨mW_in (p := 912) rfl rfl, mW_in (p := 11) rfl rfl, ⟨mCn_3.1, mCn_3.2.1, mDs_6⟩, by decide, mCn_3.2.2, ⟨mW_in (p := 911) rfl rfl, mPriv_in (i := 43) (q := (_, _)) rfl⟩, rfl⟩
theorem mCc_47 : (kX3_performOnProcesses.all (fun bk => mChkB 3 false cX3_performOnProcesses (mBp kX3_performOnProcesses) bk.1 bk.2) && decide (mBp kX3_performOnProcesses 0 = 0)) = true := by decide +kernel
theorem mCh_47 : mChkM 47 = true := mCc_47
theorem mMk_48 : mMok 48 (mNa 48) := ⟨mW_in (p := 916) rfl rfl, mW_in (p := 11) rfl rfl, ⟨mCn_3.1, mCn_3.2.1, mDs_2⟩, by decide, mCn_3.2.2, ⟨mW_in (p := 915) rfl rfl, mPriv_in (i := 44) (q := (_, _)) rfl⟩, rfl⟩
theorem mCc_48 : (kX3_startProcess.all (fun bk => mChkB 3 false cX3_startProcess (mBp kX3_startProcess) bk.1 bk.2) && decide (mBp kX3_startProcess 0 = 0)) = true := by decide +kernel
theorem mCh_48 : mChkM 48 = true := mCc_48
theorem mMk_49 : mMok 49 (mNa 49) := ⟨mW_in (p := 920) rfl rfl, mW_in (p := 11) rfl rfl, ⟨mCn_3.1, mCn_3.2.1, mDs_2⟩, by decide, mCn_3.2.2, ⟨mW_in (p := 919) rfl rfl, mPriv_in (i := 45) (q := (_, _)) rfl⟩, rfl⟩
theorem mCc_49 : (kX3_endProcess.all (fun bk => mChkB 3 false cX3_endProcess (mBp kX3_endProcess) bk.1 bk.2) && decide (mBp kX3_endProcess 0 = 0)) = true := by decide +kernel
theorem mCh_49 : mChkM 49 = true := mCc_49
theorem mMk_50 : mMok 50 (mNa 50) := ⟨mW_in (p := 924) rfl rfl, mW_in (p := 11) rfl rfl, ⟨mCn_3.1, mCn_3.2.1, mDs_2⟩, by decide, mCn_3.2.2, ⟨mW_in (p := 923) rfl rfl, mPriv_in (i := 46) (q := (_, _)) rfl⟩, rfl⟩
theorem mCc_50 : (kX3_runProcess.all (fun bk => mChkB 3 false cX3_runProcess (mBp kX3_runProcess) bk.1 bk.2) && decide (mBp kX3_runProcess 0 = 0)) = true := by decide +kernel
theorem mCh_50 : mChkM 50 = true := mCc_50
theorem mMk_51 : mMok 51 (mNa 51) := ⟨mW_in (p := 928) rfl rfl, mW_in (p := 11) rfl rfl, ⟨mCn_3.1, mCn_3.2.1, mDs_2⟩, by decide, mCn_3.2.2, ⟨mW_in (p := 927) rfl rfl, mPriv_in (i := 47) (q := (_, _)) rfl⟩, rfl⟩
theorem mCc_51 : (kX3_waitForTime.all (fun bk => mChkB 3 false cX3_waitForTime (mBp kX3_waitForTime) bk.1 bk.2) && decide (mBp kX3_waitForTime 0 = 0)) = true := by decide +kernel
theorem mCh_51 : mChkM 51 = true := mCc_51
theorem mMk_52 : mMok 52 (mNa 52) := ⟨mW_in (p := 875) rfl rfl, mW_in (p := 11) rfl rfl, ⟨mCn_3.1, mCn_3.2.1, mDs_38⟩, by decide, mCn_3.2.2, ⟨mW_in (p := 874) rfl rfl, mPriv_in (i := 38) (q := (_, _)) rfl⟩, rfl⟩
theorem mCc_52 : (kX3_communicate.all (fun bk => mChkB 3 false cX3_communicate (mBp kX3_communicate) bk.1 bk.2) && decide (mBp kX3_communicate 0 = 0)) = true := by decide +kernel
theorem mCh_52 : mChkM 52 = true := mCc_52
theorem mMk_53 : mMok 53 (mNa 53) := ⟨mW_in (p := 904) rfl rfl, mW_in (p := 11) rfl rfl, ⟨mCn_3.1, mCn_3.2.1, mDs_40⟩, by decide, mCn_3.2.2, ⟨mW_in (p := 903) rfl rfl, mPriv_in (i := 42) (q := (_, _)) rfl⟩, rfl⟩
theorem mCc_53 : (kX3_meet.all (fun bk => mChkB 3 false cX3_meet (mBp kX3_meet) bk.1 bk.2) && decide (mBp kX3_meet 0 = 0)) = true := by decide +kernel
theorem mCh_53 : mChkM 53 = true := mCc_53
theorem mMk_54 : mMok 54 (mNa 54) := ⟨mW_in (p := 888) rfl rfl, mW_in (p := 11) rfl rfl, ⟨mCn_3.1, mCn_3.2.1, mDs_8⟩, by decide, mCn_3.2.2, ⟨mW_in (p := 887) rfl rfl, mPriv_in (i := 40) (q := (_, _)) rfl⟩, rfl⟩
theorem mCc_54 : (kX3_waitAt.all (fun bk => mChkB 3 false cX3_waitAt (mBp kX3_waitAt) bk.1 bk.2) && decide (mBp kX3_waitAt 0 = 0)) = true := by decide +kernel
theorem mCh_54 : mChkM 54 = true := mCc_54
theorem mMk_55 : mMok 55 (mNa 55) := ⟨mW_in (p := 892) rfl rfl, mW_in (p := 11) rfl rfl, ⟨mCn_3.1, mCn_3.2.1, mDs_5⟩, by decide, mCn_3.2.2, ⟨mW_in (p := 891) rfl rfl, mPriv_in (i := 41) (q := (_, _)) rfl⟩, rfl⟩
theorem mCc_55 : (kX3_alert.all (fun bk => mChkB 3 false cX3_alert (mBp kX3_alert) bk.1 bk.2) && decide (mBp kX3_alert 0 = 0)) = true := by decide +kernel
theorem mCh_55 : mChkM 55 = true := mCc_55
theorem mMk_56 : mMok 56 (mNa 56) := ⟨mW_in (p := 882) rfl rfl, mW_in (p := 11) rfl rfl, ⟨mCn_3.1, mCn_3.2.1, mDs_39⟩, by decide, mCn_3.2.2, ⟨mW_in (p := 881) rfl rfl, mPriv_in (i := 39) (q := (_, _)) rfl⟩, rfl⟩
theorem mCc_56 : (kX3_useLink.all (fun bk => mChkB 3 false cX3_useLink (mBp kX3_useLink) bk.1 bk.2) && decide (mBp kX3_useLink 0 = 0)) = true := by decide +kernel
theorem mCh_56 : mChkM 56 = true := mCc_56
theorem mMk_57 : mMok 57 (mNa 57) := ⟨mW_in (p := 945) rfl rfl, mW_in (p := 11) rfl rfl, ⟨mCn_3.1, mCn_3.2.1, mDs_6⟩, by decide, mCn_3.2.2, ⟨mW_in (p := 944) rfl rfl, mPriv_in (i := 48) (q := (_, _)) rfl⟩, rfl⟩
theorem mCc_57 : (kX3_performOnGuards.all (fun bk => mChkB 3 false cX3_performOnGuards (mBp kX3_performOnGuards) bk.1 bk.2) && decide (mBp kX3_performOnGuards 0 = 0)) = true := by decide +kernel
theorem mCh_57 : mChkM 57 = true := mCc_57
theorem mMk_58 : mMok 58 (mNa 58) := ⟨mW_in (p := 949) rfl rfl, mW_in (p := 11) rfl rfl, ⟨mCn_3.1, mCn_3.2.1, mDs_2⟩, by decide, mCn_3.2.2, ⟨mW_in (p := 948) rfl rfl, mPriv_in (i := 49) (q := (_, _)) rfl⟩, rfl⟩
theorem mCc_58 : (kX3_waitForGuard.all (fun bk => mChkB 3 false cX3_waitForGuard (mBp kX3_waitForGuard) bk.1 bk.2) && decide (mBp kX3_waitForGuard 0 = 0)) = true := by decide +kernel
theorem mCh_58 : mChkM 58 = true := mCc_58
theorem mMk_59 : mMok 59 (mNa 59) := ⟨mW_in (p := 953) rfl rfl, mW_in (p := 11) rfl rfl, ⟨mCn_3.1, mCn_3.2.1, mDs_2⟩, by decide, mCn_3.2.2, ⟨mW_in (p := 952) rfl rfl, mPriv_in (i := 50) (q := (_, _)) rfl⟩, rfl⟩
theorem mCc_59 : (kX3_waitForGuardOrTime.all (fun bk => mChkB 3 false cX3_waitForGuardOrTime (mBp kX3_waitForGuardOrTime) bk.1 bk.2) && decide (mBp kX3_waitForGuardOrTime 0 = 0)) = true := by decide +kernel
theorem mCh_59 : mChkM 59 = true := mCc_59
theorem mMk_60 : mMok 60 (mNa 60) := ⟨mW_in (p := 957) rfl rfl, mW_in (p := 11) rfl rfl, ⟨mCn_3.1, mCn_3.2.1, mDs_2⟩, by decide, mCn_3.2.2, ⟨mW_in (p := 956) rfl rfl, mPriv_in (i := 51) (q := (_, _)) rfl⟩, rfl⟩
theorem mCc_60 : (kX3_enableChannel.all (fun bk => mChkB 3 false cX3_enableChannel (mBp kX3_enableChannel) bk.1 bk.2) && decide (mBp kX3_enableChannel 0 = 0)) = true := by decide +kernel
theorem mCh_60 : mChkM 60 = true := mCc_60
theorem mMk_61 : mMok 61 (mNa 61) := ⟨mW_in (p := 964) rfl rfl, mW_in (p := 11) rfl rfl, ⟨mCn_3.1, mCn_3.2.1, mDs_24⟩, by decide, mCn_3.2.2, ⟨mW_in (p := 963) rfl rfl, mPriv_in (i := 52) (q := (_, _)) rfl⟩, rfl⟩
theorem mCc_61 : (kX3_enableLink.all (fun bk => mChkB 3 false cX3_enableLink (mBp kX3_enableLink) bk.1 bk.2) && decide (mBp kX3_enableLink 0 = 0)) = true := by decide +kernel
theorem mCh_61 : mChkM 61 = true := mCc_61
theorem mMk_62 : mMok 62 (mNa 62) := ⟨mW_in (p := 968) rfl rfl, mW_in (p := 11) rfl rfl, ⟨mCn_3.1, mCn_3.2.1, mDs_2⟩, by decide, mCn_3.2.2, ⟨mW_in (p := 967) rfl rfl, mPriv_in (i := 53) (q := (_, _)) rfl⟩, rfl⟩
theorem mCc_62 : (kX3_disableChannel.all (fun bk => mChkB 3 false cX3_disableChannel (mBp kX3_disableChannel) bk.1 bk.2) && decide (mBp kX3_disableChannel 0 = 0)) = true := by decide +kernel
theorem mCh_62 : mChkM 62 = true := mCc_62
theorem mMk_63 : mMok 63 (mNa 63) := ⟨mW_in (p := 960) rfl rfl, mW_in (p := 11) rfl rfl, ⟨mCn_3.1, mCn_3.2.1, mDs_6⟩, by decide, mCn_3.2.2, mW_in (p := 959) rfl rfl, rfl⟩
theorem mCc_63 : (kX3_isChannelIn.all (fun bk => mChkB 3 false cX3_isChannelIn (mBp kX3_isChannelIn) bk.1 bk.2) && decide (mBp kX3_isChannelIn 0 = 0)) = true := by decide +kernel
theorem mCh_63 : mChkM 63 = true := mCc_63
theorem mMk_64 : mMok 64 (mNa 64) := ⟨mW_in (p := 972) rfl rfl, mW_in (p := 11) rfl rfl, ⟨mCn_3.1, mCn_3.2.1, mDs_37⟩, by decide, mCn_3.2.2, ⟨mW_in (p := 971) rfl rfl, mPriv_in (i := 54) (q := (_, _)) rfl⟩, rfl⟩
theorem mCc_64 : (kX3_fire.all (fun bk => mChkB 3 false cX3_fire (mBp kX3_fire) bk.1 bk.2) && decide (mBp kX3_fire 0 = 0)) = true := by decide +kernel
theorem mCh_64 : mChkM 64 = true := mCc_64
theorem mMk_65 : mMok 65 (mNa 65) := ⟨mW_in (p := 976) rfl rfl, mW_in (p := 11) rfl rfl, ⟨mCn_3.1, mCn_3.2.1, mDs_1⟩, by decide, mCn_3.2.2, ⟨mW_in (p := 975) rfl rfl, mPriv_in (i := 55) (q := (_, _)) rfl⟩, rfl⟩
theorem mCc_65 : (kX3_enableTime.all (fun bk => mChkB 3 false cX3_enableTime (mBp kX3_enableTime) bk.1 bk.2) && decide (mBp kX3_enableTime 0 = 0)) = true := by decide +kernel
theorem mCh_65 : mChkM 65 = true := mCc_65
theorem mMk_66 : mMok 66 (mNa 66) := ⟨mW_in (p := 997) rfl rfl, mW_in (p := 11) rfl rfl, ⟨mCn_3.1, mCn_3.2.1, mDs_25⟩, by decide, mCn_3.2.2, ⟨mW_in (p := 995) rfl rfl, mW_in (p := 996) rfl rfl⟩, rfl⟩
theorem mCc_66 : (kX3_fillBuffer.all (fun bk => mChkB 3 false cX3_fillBuffer (mBp kX3_fillBuffer) bk.1 bk.2) && decide (mBp kX3_fillBuffer 0 = 0)) = true := by decide +kernel
theorem mCh_66 : mChkM 66 = true := mCc_66
theorem mMk_67 : mMok 67 (mNa 67) := ⟨mW_in (p := 1005) rfl rfl, mW_in (p := 11) rfl rfl, ⟨mCn_3.1, mCn_3.2.1, mDs_24⟩, by decide, mCn_3.2.2, ⟨mW_in (p := 1003) rfl rfl, mW_in (p := 1004) rfl rfl⟩, rfl⟩
theorem mCc_67 : (kX3_emptyBuffer.all (fun bk => mChkB 3 false cX3_emptyBuffer (mBp kX3_emptyBuffer) bk.1 bk.2) && decide (mBp kX3_emptyBuffer 0 = 0)) = true := by decide +kernel
theorem mCh_67 : mChkM 67 = true := mCc_67
theorem mMk_68 : mMok 68 (mNa 68) := ⟨mW_in (p := 41) rfl rfl, mW_in (p := 3) rfl rfl, ⟨mCn_4.1, mCn_4.2.1, mDs_1⟩, by decide, mCn_4.2.2, ⟨mW_in (p := 40) rfl rfl, rfl, rfl⟩, rfl⟩
theorem mCc_68 : (kX4_init.all (fun bk => mChkB 4 true cX4_init (mBp kX4_init) bk.1 bk.2) && decide (mBp kX4_init 0 = 0)) = true := by decide +kernel
theorem mCh_68 : mChkM 68 = true := mCc_68
theorem mMk_69 : mMok 69 (mNa 69) := ⟨mW_in (p := 46) rfl rfl, mW_in (p := 3) rfl rfl, ⟨mCn_4.1, mCn_4.2.1, mDs_1⟩, by decide, mCn_4.2.2, ⟨mW_in (p := 44) rfl rfl, mW_in (p := 45) rfl rfl⟩, rfl⟩
theorem mCc_69 : (kX4_empty.all (fun bk => mChkB 4 false cX4_empty (mBp kX4_empty) bk.1 bk.2) && decide (mBp kX4_empty 0 = 0)) = true := by decide +kernel
theorem mCh_69 : mChkM 69 = true := mCc_69
theorem mMk_70 : mMok 70 (mNa 70) := ⟨mW_in (p := 619) rfl rfl, mW_in (p := 3) rfl rfl, ⟨mCn_4.1, mCn_4.2.1, mDs_11⟩, by decide, mCn_4.2.2, ⟨mW_in (p := 617) rfl rfl, mW_in (p := 618) rfl rfl⟩, rfl⟩
theorem mCc_70 : (kX4_setWord.all (fun bk => mChkB 4 false cX4_setWord (mBp kX4_setWord) bk.1 bk.2) && decide (mBp kX4_setWord 0 = 0)) = true := by decide +kernel
theorem mCh_70 : mChkM 70 = true := mCc_70
theorem mMk_71 : mMok 71 (mNa 71) := ⟨mW_in (p := 663) rfl rfl, mW_in (p := 3) rfl rfl, ⟨mCn_4.1, mCn_4.2.1, mDs_5⟩, by decide, mCn_4.2.2, ⟨mW_in (p := 661) rfl rfl, mW_in (p := 662) rfl rfl⟩, rfl⟩
theorem mCc_71 : (kX4_addLabel.all (fun bk => mChkB 4 false cX4_addLabel (mBp kX4_addLabel) bk.1 bk.2) && decide (mBp kX4_addLabel 0 = 0)) = true := by decide +kernel
theorem mCh_71 : mChkM 71 = true := mCc_71
theorem mMk_72 : mMok 72 (mNa 72) := ⟨mW_in (p := 671) rfl rfl, mW_in (p := 3) rfl rfl, ⟨mCn_4.1, mCn_4.2.1, mDs_8⟩, by decide, mCn_4.2.2, ⟨mW_in (p := 669) rfl rfl, mW_in (p := 670) rfl rfl⟩, rfl⟩
theorem mCc_72 : (kX4_addInstruction.all (fun bk => mChkB 4 false cX4_addInstruction (mBp kX4_addInstruction) bk.1 bk.2) && decide (mBp kX4_addInstruction 0 = 0)) = true := by decide +kernel
theorem mCh_72 : mChkM 72 = true := mCc_72
theorem mMk_73 : mMok 73 (mNa 73) := ⟨mW_in (p := 635) rfl rfl, mW_in (p := 3) rfl rfl, ⟨mCn_4.1, mCn_4.2.1, mDs_14⟩, by decide, mCn_4.2.2, ⟨mW_in (p := 633) rfl rfl, mW_in (p := 634) rfl rfl⟩, rfl⟩
theorem mCc_73 : (kX4_addJoin.all (fun bk => mChkB 4 false cX4_addJoin (mBp kX4_addJoin) bk.1 bk.2) && decide (mBp kX4_addJoin 0 = 0)) = true := by decide +kernel
theorem mCh_73 : mChkM 73 = true := mCc_73
theorem mMk_74 : mMok 74 (mNa 74) := ⟨mW_in (p := 647) rfl rfl, mW_in (p := 3) rfl rfl, ⟨mCn_4.1, mCn_4.2.1, mDs_11⟩, by decide, mCn_4.2.2, ⟨mW_in (p := 645) rfl rfl, mW_in (p := 646) rfl rfl⟩, rfl⟩
theorem mCc_74 : (kX4_addRun.all (fun bk => mChkB 4 false cX4_addRun (mBp kX4_addRun) bk.1 bk.2) && decide (mBp kX4_addRun 0 = 0)) = true := by decide +kernel
theorem mCh_74 : mChkM 74 = true := mCc_74
theorem mMk_75 : mMok 75 (mNa 75) := ⟨mW_in (p := 659) rfl rfl, mW_in (p := 3) rfl rfl, ⟨mCn_4.1, mCn_4.2.1, mDs_4⟩, by decide, mCn_4.2.2, ⟨mW_in (p := 657) rfl rfl, mW_in (p := 658) rfl rfl⟩, rfl⟩
theorem mCc_75 : (kX4_placeOf.all (fun bk => mChkB 4 false cX4_placeOf (mBp kX4_placeOf) bk.1 bk.2) && decide (mBp kX4_placeOf 0 = 0)) = true := by decide +kernel
theorem mCh_75 : mChkM 75 = true := mCc_75
theorem mMk_76 : mMok 76 (mNa 76) := ⟨mW_in (p := 627) rfl rfl, mW_in (p := 3) rfl rfl, ⟨mCn_4.1, mCn_4.2.1, mDs_9⟩, by decide, mCn_4.2.2, ⟨mW_in (p := 625) rfl rfl, mW_in (p := 626) rfl rfl⟩, rfl⟩
theorem mCc_76 : (kX4_isSending.all (fun bk => mChkB 4 false cX4_isSending (mBp kX4_isSending) bk.1 bk.2) && decide (mBp kX4_isSending 0 = 0)) = true := by decide +kernel
theorem mCh_76 : mChkM 76 = true := mCc_76
theorem mMk_77 : mMok 77 (mNa 77) := ⟨mW_in (p := 631) rfl rfl, mW_in (p := 3) rfl rfl, ⟨mCn_4.1, mCn_4.2.1, mDs_9⟩, by decide, mCn_4.2.2, ⟨mW_in (p := 629) rfl rfl, mW_in (p := 630) rfl rfl⟩, rfl⟩
theorem mCc_77 : (kX4_isReceiving.all (fun bk => mChkB 4 false cX4_isReceiving (mBp kX4_isReceiving) bk.1 bk.2) && decide (mBp kX4_isReceiving 0 = 0)) = true := by decide +kernel
theorem mCh_77 : mChkM 77 = true := mCc_77
theorem mMk_78 : mMok 78 (mNa 78) := ⟨mW_in (p := 35) rfl rfl, mW_in (p := 2) rfl rfl, ⟨mCn_5.1, mCn_5.2.1, mDs_1⟩, by decide, mCn_5.2.2, ⟨mW_in (p := 34) rfl rfl, rfl, rfl⟩, rfl⟩
theorem mCc_78 : (kX5_init.all (fun bk => mChkB 5 true cX5_init (mBp kX5_init) bk.1 bk.2) && decide (mBp kX5_init 0 = 0)) = true := by decide +kernel
theorem mCh_78 : mChkM 78 = true := mCc_78
theorem mMk_79 : mMok 79 (mNa 79) := ⟨mW_in (p := 140) rfl rfl, mW_in (p := 2) rfl rfl, ⟨mCn_5.1, mCn_5.2.1, mDs_36⟩, by decide, mCn_5.2.2, ⟨mW_in (p := 139) rfl rfl, mPriv_in (i := 0) (q := (_, _)) rfl⟩, rfl⟩
theorem mCc_79 : (kX5_addNames.all (fun bk => mChkB 5 false cX5_addNames (mBp kX5_addNames) bk.1 bk.2) && decide (mBp kX5_addNames 0 = 0)) = true := by decide +kernel
theorem mCh_79 : mChkM 79 = true := mCc_79
theorem mMk_80 : mMok 80 (mNa 80) := ⟨mW_in (p := 191) rfl rfl, mW_in (p := 2) rfl rfl, ⟨mCn_5.1, mCn_5.2.1, mDs_7⟩, by decide, mCn_5.2.2, mW_in (p := 190) rfl rfl, rfl⟩
theorem mCc_80 : (kX5_pack.all (fun bk => mChkB 5 false cX5_pack (mBp kX5_pack) bk.1 bk.2) && decide (mBp kX5_pack 0 = 0)) = true := by decide +kernel
theorem mCh_80 : mChkM 80 = true := mCc_80
theorem mMk_81 : mMok 81 (mNa 81) := ⟨mW_in (p := 569) rfl rfl, mW_in (p := 2) rfl rfl, ⟨mCn_5.1, mCn_5.2.1, mDs_41⟩, by decide, mCn_5.2.2, ⟨mW_in (p := 567) rfl rfl, mW_in (p := 568) rfl rfl⟩, rfl⟩
theorem mCc_81 : (kX5_read.all (fun bk => mChkB 5 false cX5_read (mBp kX5_read) bk.1 bk.2) && decide (mBp kX5_read 0 = 0)) = true := by decide +kernel
theorem mCh_81 : mChkM 81 = true := mCc_81
theorem mMk_82 : mMok 82 (mNa 82) := ⟨mW_in (p := 607) rfl rfl, mW_in (p := 2) rfl rfl, ⟨mCn_5.1, mCn_5.2.1, mDs_8⟩, by decide, mCn_5.2.2, ⟨mW_in (p := 606) rfl rfl, mPriv_in (i := 8) (q := (_, _)) rfl⟩, rfl⟩
theorem mCc_82 : (kX5_fail.all (fun bk => mChkB 5 false cX5_fail (mBp kX5_fail) bk.1 bk.2) && decide (mBp kX5_fail 0 = 0)) = true := by decide +kernel
theorem mCh_82 : mChkM 82 = true := mCc_82
theorem mMk_83 : mMok 83 (mNa 83) := ⟨mW_in (p := 675) rfl rfl, mW_in (p := 2) rfl rfl, ⟨mCn_5.1, mCn_5.2.1, mDs_1⟩, by decide, mCn_5.2.2, ⟨mW_in (p := 674) rfl rfl, mPriv_in (i := 17) (q := (_, _)) rfl⟩, rfl⟩
theorem mCc_83 : (kX5_findUses.all (fun bk => mChkB 5 false cX5_findUses (mBp kX5_findUses) bk.1 bk.2) && decide (mBp kX5_findUses 0 = 0)) = true := by decide +kernel
theorem mCh_83 : mChkM 83 = true := mCc_83
theorem mMk_84 : mMok 84 (mNa 84) := ⟨mW_in (p := 577) rfl rfl, mW_in (p := 2) rfl rfl, ⟨mCn_5.1, mCn_5.2.1, mDs_1⟩, by decide, mCn_5.2.2, ⟨mW_in (p := 576) rfl rfl, mPriv_in (i := 2) (q := (_, _)) rfl⟩, rfl⟩
theorem mCc_84 : (kX5_scan.all (fun bk => mChkB 5 false cX5_scan (mBp kX5_scan) bk.1 bk.2) && decide (mBp kX5_scan 0 = 0)) = true := by decide +kernel
theorem mCh_84 : mChkM 84 = true := mCc_84
theorem mMk_85 : mMok 85 (mNa 85) := ⟨mW_in (p := 580) rfl rfl, mW_in (p := 2) rfl rfl, ⟨mCn_5.1, mCn_5.2.1, mDs_3⟩, by decide, mCn_5.2.2, mW_in (p := 579) rfl rfl, rfl⟩
theorem mCc_85 : (kX5_isLetter.all (fun bk => mChkB 5 false cX5_isLetter (mBp kX5_isLetter) bk.1 bk.2) && decide (mBp kX5_isLetter 0 = 0)) = true := by decide +kernel
theorem mCh_85 : mChkM 85 = true := mCc_85
theorem mMk_86 : mMok 86 (mNa 86) := ⟨mW_in (p := 587) rfl rfl, mW_in (p := 2) rfl rfl, ⟨mCn_5.1, mCn_5.2.1, mDs_3⟩, by decide, mCn_5.2.2, mW_in (p := 586) rfl rfl, rfl⟩
theorem mCc_86 : (kX5_isDigit.all (fun bk => mChkB 5 false cX5_isDigit (mBp kX5_isDigit) bk.1 bk.2) && decide (mBp kX5_isDigit 0 = 0)) = true := by decide +kernel
theorem mCh_86 : mChkM 86 = true := mCc_86
theorem mMk_87 : mMok 87 (mNa 87) := ⟨mW_in (p := 584) rfl rfl, mW_in (p := 2) rfl rfl, ⟨mCn_5.1, mCn_5.2.1, mDs_1⟩, by decide, mCn_5.2.2, ⟨mW_in (p := 583) rfl rfl, mPriv_in (i := 3) (q := (_, _)) rfl⟩, rfl⟩
theorem mCc_87 : (kX5_scanWord.all (fun bk => mChkB 5 false cX5_scanWord (mBp kX5_scanWord) bk.1 bk.2) && decide (mBp kX5_scanWord 0 = 0)) = true := by decide +kernel
theorem mCh_87 : mChkM 87 = true := mCc_87
theorem mMk_88 : mMok 88 (mNa 88) := ⟨mW_in (p := 591) rfl rfl, mW_in (p := 2) rfl rfl, ⟨mCn_5.1, mCn_5.2.1, mDs_1⟩, by decide, mCn_5.2.2, ⟨mW_in (p := 590) rfl rfl, mPriv_in (i := 4) (q := (_, _)) rfl⟩, rfl⟩
theorem mCc_88 : (kX5_scanNumber.all (fun bk => mChkB 5 false cX5_scanNumber (mBp kX5_scanNumber) bk.1 bk.2) && decide (mBp kX5_scanNumber 0 = 0)) = true := by decide +kernel
theorem mCh_88 : mChkM 88 = true := mCc_88
theorem mMk_89 : mMok 89 (mNa 89) := ⟨mW_in (p := 599) rfl rfl, mW_in (p := 2) rfl rfl, ⟨mCn_5.1, mCn_5.2.1, mDs_0⟩, by decide, mCn_5.2.2, ⟨mW_in (p := 598) rfl rfl, mPriv_in (i := 6) (q := (_, _)) rfl⟩, rfl⟩
theorem mCc_89 : (kX5_name.all (fun bk => mChkB 5 false cX5_name (mBp kX5_name) bk.1 bk.2) && decide (mBp kX5_name 0 = 0)) = true := by decide +kernel
theorem mCh_89 : mChkM 89 = true := mCc_89
theorem mMk_90 : mMok 90 (mNa 90) := ⟨mW_in (p := 595) rfl rfl, mW_in (p := 2) rfl rfl, ⟨mCn_5.1, mCn_5.2.1, mDs_1⟩, by decide, mCn_5.2.2, ⟨mW_in (p := 594) rfl rfl, mPriv_in (i := 5) (q := (_, _)) rfl⟩, rfl⟩
theorem mCc_90 : (kX5_readLine.all (fun bk => mChkB 5 false cX5_readLine (mBp kX5_readLine) bk.1 bk.2) && decide (mBp kX5_readLine 0 = 0)) = true := by decide +kernel
theorem mCh_90 : mChkM 90 = true := mCc_90
theorem mMk_91 : mMok 91 (mNa 91) := ⟨mW_in (p := 603) rfl rfl, mW_in (p := 2) rfl rfl, ⟨mCn_5.1, mCn_5.2.1, mDs_1⟩, by decide, mCn_5.2.2, ⟨mW_in (p := 602) rfl rfl, mPriv_in (i := 7) (q := (_, _)) rfl⟩, rfl⟩
theorem mCc_91 : (kX5_readSlice.all (fun bk => mChkB 5 false cX5_readSlice (mBp kX5_readSlice) bk.1 bk.2) && decide (mBp kX5_readSlice 0 = 0)) = true := by decide +kernel
theorem mCh_91 : mChkM 91 = true := mCc_91
theorem mMk_92 : mMok 92 (mNa 92) := ⟨mW_in (p := 615) rfl rfl, mW_in (p := 2) rfl rfl, ⟨mCn_5.1, mCn_5.2.1, mDs_1⟩, by decide, mCn_5.2.2, ⟨mW_in (p := 614) rfl rfl, mPriv_in (i := 10) (q := (_, _)) rfl⟩, rfl⟩
theorem mCc_92 : (kX5_readWord.all (fun bk => mChkB 5 false cX5_readWord (mBp kX5_readWord) bk.1 bk.2) && decide (mBp kX5_readWord 0 = 0)) = true := by decide +kernel
theorem mCh_92 : mChkM 92 = true := mCc_92
theorem mMk_93 : mMok 93 (mNa 93) := ⟨mW_in (p := 623) rfl rfl, mW_in (p := 2) rfl rfl, ⟨mCn_5.1, mCn_5.2.1, mDs_1⟩, by decide, mCn_5.2.2, ⟨mW_in (p := 622) rfl rfl, mPriv_in (i := 11) (q := (_, _)) rfl⟩, rfl⟩
theorem mCc_93 : (kX5_readJoin.all (fun bk => mChkB 5 false cX5_readJoin (mBp kX5_readJoin) bk.1 bk.2) && decide (mBp kX5_readJoin 0 = 0)) = true := by decide +kernel
theorem mCh_93 : mChkM 93 = true := mCc_93
theorem mMk_94 : mMok 94 (mNa 94) := ⟨mW_in (p := 639) rfl rfl, mW_in (p := 2) rfl rfl, ⟨mCn_5.1, mCn_5.2.1, mDs_1⟩, by decide, mCn_5.2.2, ⟨mW_in (p := 638) rfl rfl, mPriv_in (i := 12) (q := (_, _)) rfl⟩, rfl⟩
theorem mCc_94 : (kX5_readRun.all (fun bk => mChkB 5 false cX5_readRun (mBp kX5_readRun) bk.1 bk.2) && decide (mBp kX5_readRun 0 = 0)) = true := by decide +kernel
theorem mCh_94 : mChkM 94 = true := mCc_94
theorem mMk_95 : mMok 95 (mNa 95) := ⟨mW_in (p := 651) rfl rfl, mW_in (p := 2) rfl rfl, ⟨mCn_5.1, mCn_5.2.1, mDs_1⟩, by decide, mCn_5.2.2, ⟨mW_in (p := 650) rfl rfl, mPriv_in (i := 14) (q := (_, _)) rfl⟩, rfl⟩
theorem mCc_95 : (kX5_readInstruction.all (fun bk => mChkB 5 false cX5_readInstruction (mBp kX5_readInstruction) bk.1 bk.2) && decide (mBp kX5_readInstruction 0 = 0)) = true := by decide +kernel
theorem mCh_95 : mChkM 95 = true := mCc_95
theorem mMk_96 : mMok 96 (mNa 96) := ⟨mW_in (p := 655) rfl rfl, mW_in (p := 2) rfl rfl, ⟨mCn_5.1, mCn_5.2.1, mDs_1⟩, by decide, mCn_5.2.2, ⟨mW_in (p := 654) rfl rfl, mPriv_in (i := 15) (q := (_, _)) rfl⟩, rfl⟩
theorem mCc_96 : (kX5_readLabel.all (fun bk => mChkB 5 false cX5_readLabel (mBp kX5_readLabel) bk.1 bk.2) && decide (mBp kX5_readLabel 0 = 0)) = true := by decide +kernel
theorem mCh_96 : mChkM 96 = true := mCc_96
theorem mMk_97 : mMok 97 (mNa 97) := ⟨mW_in (p := 667) rfl rfl, mW_in (p := 2) rfl rfl, ⟨mCn_5.1, mCn_5.2.1, mDs_5⟩, by decide, mCn_5.2.2, ⟨mW_in (p := 666) rfl rfl, mPriv_in (i := 16) (q := (_, _)) rfl⟩, rfl⟩
theorem mCc_97 : (kX5_takeSign.all (fun bk => mChkB 5 false cX5_takeSign (mBp kX5_takeSign) bk.1 bk.2) && decide (mBp kX5_takeSign 0 = 0)) = true := by decide +kernel
theorem mCh_97 : mChkM 97 = true := mCc_97
theorem mMk_98 : mMok 98 (mNa 98) := ⟨mW_in (p := 611) rfl rfl, mW_in (p := 2) rfl rfl, ⟨mCn_5.1, mCn_5.2.1, mDs_7⟩, by decide, mCn_5.2.2, ⟨mW_in (p := 610) rfl rfl, mPriv_in (i := 9) (q := (_, _)) rfl⟩, rfl⟩
theorem mCc_98 : (kX5_takeNumber.all (fun bk => mChkB 5 false cX5_takeNumber (mBp kX5_takeNumber) bk.1 bk.2) && decide (mBp kX5_takeNumber 0 = 0)) = true := by decide +kernel
theorem mCh_98 : mChkM 98 = true := mCc_98
theorem mMk_99 : mMok 99 (mNa 99) := ⟨mW_in (p := 643) rfl rfl, mW_in (p := 2) rfl rfl, ⟨mCn_5.1, mCn_5.2.1, mDs_5⟩, by decide, mCn_5.2.2, ⟨mW_in (p := 642) rfl rfl, mPriv_in (i := 13) (q := (_, _)) rfl⟩, rfl⟩
theorem mCc_99 : (kX5_takeUse.all (fun bk => mChkB 5 false cX5_takeUse (mBp kX5_takeUse) bk.1 bk.2) && decide (mBp kX5_takeUse 0 = 0)) = true := by decide +kernel
theorem mCh_99 : mChkM 99 = true := mCc_99
theorem mMk_100 : mMok 100 (mNa 100) := ⟨mW_in (p := 293) rfl rfl, mW_in (p := 12) rfl rfl, ⟨mCn_6.1, mCn_6.2.1, mDs_1⟩, by decide, mCn_6.2.2, ⟨mW_in (p := 292) rfl rfl, rfl, rfl⟩, rfl⟩
theorem mCc_100 : (kX6_init.all (fun bk => mChkB 6 true cX6_init (mBp kX6_init) bk.1 bk.2) && decide (mBp kX6_init 0 = 0)) = true := by decide +kernel
theorem mCh_100 : mChkM 100 = true := mCc_100
theorem mMk_101 : mMok 101 (mNa 101) := ⟨mW_in (p := 935) rfl rfl, mW_in (p := 12) rfl rfl, ⟨mCn_6.1, mCn_6.2.1, mDs_2⟩, by decide, mCn_6.2.2, ⟨mW_in (p := 933) rfl rfl, mW_in (p := 934) rfl rfl⟩, rfl⟩
theorem mCc_101 : (kX6_isFull.all (fun bk => mChkB 6 false cX6_isFull (mBp kX6_isFull) bk.1 bk.2) && decide (mBp kX6_isFull 0 = 0)) = true := by decide +kernel
theorem mCh_101 : mChkM 101 = true := mCc_101
theorem mMk_102 : mMok 102 (mNa 102) := ⟨mW_in (p := 939) rfl rfl, mW_in (p := 12) rfl rfl, ⟨mCn_6.1, mCn_6.2.1, mDs_20⟩, by decide, mCn_6.2.2, ⟨mW_in (p := 937) rfl rfl, mW_in (p := 938) rfl rfl⟩, rfl⟩
theorem mCc_102 : (kX6_put.all (fun bk => mChkB 6 false cX6_put (mBp kX6_put) bk.1 bk.2) && decide (mBp kX6_put 0 = 0)) = true := by decide +kernel
theorem mCh_102 : mChkM 102 = true := mCc_102
theorem mMk_103 : mMok 103 (mNa 103) := ⟨mW_in (p := 900) rfl rfl, mW_in (p := 12) rfl rfl, ⟨mCn_6.1, mCn_6.2.1, mDs_5⟩, by decide, mCn_6.2.2, ⟨mW_in (p := 898) rfl rfl, mW_in (p := 899) rfl rfl⟩, rfl⟩
theorem mCc_103 : (kX6_remove.all (fun bk => mChkB 6 false cX6_remove (mBp kX6_remove) bk.1 bk.2) && decide (mBp kX6_remove 0 = 0)) = true := by decide +kernel
theorem mCh_103 : mChkM 103 = true := mCc_103
theorem mMk_104 : mMok 104 (mNa 104) := ⟨mW_in (p := 896) rfl rfl, mW_in (p := 12) rfl rfl, ⟨mCn_6.1, mCn_6.2.1, mDs_4⟩, by decide, mCn_6.2.2, ⟨mW_in (p := 894) rfl rfl, mW_in (p := 895) rfl rfl⟩, rfl⟩
theorem mCc_104 : (kX6_findByTaltwt.all (fun bk => mChkB 6 false cX6_findByTaltwt (mBp kX6_findByTaltwt) bk.1 bk.2) && decide (mBp kX6_findByTaltwt 0 = 0)) = true := by decide +kernel
theorem mCh_104 : mChkM 104 = true := mCc_104
theorem mMk_105 : mMok 105 (mNa 105) := ⟨mW_in (p := 1057) rfl rfl, mW_in (p := 12) rfl rfl, ⟨mCn_6.1, mCn_6.2.1, mDs_7⟩, by decide, mCn_6.2.2, ⟨mW_in (p := 1055) rfl rfl, mW_in (p := 1056) rfl rfl⟩, rfl⟩
theorem mCc_105 : (kX6_tell.all (fun bk => mChkB 6 false cX6_tell (mBp kX6_tell) bk.1 bk.2) && decide (mBp kX6_tell 0 = 0)) = true := by decide +kernel
theorem mCh_105 : mChkM 105 = true := mCc_105
theorem mMk_106 : mMok 106 (mNa 106) := ⟨mW_in (p := 745) rfl rfl, mW_in (p := 12) rfl rfl, ⟨mCn_6.1, mCn_6.2.1, mDs_33⟩, by decide, mCn_6.2.2, ⟨mW_in (p := 743) rfl rfl, mW_in (p := 744) rfl rfl⟩, rfl⟩
theorem mCc_106 : (kX6_copy.all (fun bk => mChkB 6 false cX6_copy (mBp kX6_copy) bk.1 bk.2) && decide (mBp kX6_copy 0 = 0)) = true := by decide +kernel
theorem mCh_106 : mChkM 106 = true := mCc_106
theorem mMk_107 : mMok 107 (mNa 107) := ⟨mW_in (p := 432) rfl rfl, mW_in (p := 15) rfl rfl, ⟨mCn_7.1, mCn_7.2.1, mDs_1⟩, by decide, mCn_7.2.2, ⟨mW_in (p := 431) rfl rfl, rfl, rfl⟩, rfl⟩
theorem mCc_107 : (kX7_init.all (fun bk => mChkB 7 true cX7_init (mBp kX7_init) bk.1 bk.2) && decide (mBp kX7_init 0 = 0)) = true := by decide +kernel
theorem mCh_107 : mChkM 107 = true := mCc_107
theorem mMk_108 : mMok 108 (mNa 108) := ⟨mW_in (p := 691) rfl rfl, mW_in (p := 15) rfl rfl, ⟨mCn_7.1, mCn_7.2.1, mDs_29⟩, by decide, mCn_7.2.2, ⟨mW_in (p := 689) rfl rfl, mW_in (p := 690) rfl rfl⟩, rfl⟩
theorem mCc_108 : (kX7_comeFrom.all (fun bk => mChkB 7 false cX7_comeFrom (mBp kX7_comeFrom) bk.1 bk.2) && decide (mBp kX7_comeFrom 0 = 0)) = true := by decide +kernel
theorem mCh_108 : mChkM 108 = true := mCc_108
theorem mMk_109 : mMok 109 (mNa 109) := ⟨mW_in (p := 720) rfl rfl, mW_in (p := 15) rfl rfl, ⟨mCn_7.1, mCn_7.2.1, mDs_27⟩, by decide, mCn_7.2.2, ⟨mW_in (p := 718) rfl rfl, mW_in (p := 719) rfl rfl⟩, rfl⟩
theorem mCc_109 : (kX7_comeBack.all (fun bk => mChkB 7 false cX7_comeBack (mBp kX7_comeBack) bk.1 bk.2) && decide (mBp kX7_comeBack 0 = 0)) = true := by decide +kernel
theorem mCh_109 : mChkM 109 = true := mCc_109
theorem mMk_110 : mMok 110 (mNa 110) := ⟨mW_in (p := 712) rfl rfl, mW_in (p := 15) rfl rfl, ⟨mCn_7.1, mCn_7.2.1, mDs_4⟩, by decide, mCn_7.2.2, ⟨mW_in (p := 710) rfl rfl, mW_in (p := 711) rfl rfl⟩, rfl⟩
theorem mCc_110 : (kX7_pick.all (fun bk => mChkB 7 false cX7_pick (mBp kX7_pick) bk.1 bk.2) && decide (mBp kX7_pick 0 = 0)) = true := by decide +kernel
theorem mCh_110 : mChkM 110 = true := mCc_110
theorem mMk_111 : mMok 111 (mNa 111) := ⟨mW_in (p := 695) rfl rfl, mW_in (p := 15) rfl rfl, ⟨mCn_7.1, mCn_7.2.1, mDs_27⟩, by decide, mCn_7.2.2, ⟨mW_in (p := 694) rfl rfl, mPriv_in (i := 18) (q := (_, _)) rfl⟩, rfl⟩
theorem mCc_111 : (kX7_begin.all (fun bk => mChkB 7 false cX7_begin (mBp kX7_begin) bk.1 bk.2) && decide (mBp kX7_begin 0 = 0)) = true := by decide +kernel
theorem mCh_111 : mChkM 111 = true := mCc_111
theorem mMk_112 : mMok 112 (mNa 112) := ⟨mW_in (p := 703) rfl rfl, mW_in (p := 15) rfl rfl, ⟨mCn_7.1, mCn_7.2.1, mDs_32⟩, by decide, mCn_7.2.2, ⟨mW_in (p := 702) rfl rfl, mPriv_in (i := 20) (q := (_, _)) rfl⟩, rfl⟩
theorem mCc_112 : (kX7_follow.all (fun bk => mChkB 7 false cX7_follow (mBp kX7_follow) bk.1 bk.2) && decide (mBp kX7_follow 0 = 0)) = true := by decide +kernel
theorem mCh_112 : mChkM 112 = true := mCc_112
theorem mMk_113 : mMok 113 (mNa 113) := ⟨mW_in (p := 707) rfl rfl, mW_in (p := 15) rfl rfl, ⟨mCn_7.1, mCn_7.2.1, mDs_31⟩, by decide, mCn_7.2.2, ⟨mW_in (p := 706) rfl rfl, mPriv_in (i := 21) (q := (_, _)) rfl⟩, rfl⟩
theorem mCc_113 : (kX7_goOn.all (fun bk => mChkB 7 false cX7_goOn (mBp kX7_goOn) bk.1 bk.2) && decide (mBp kX7_goOn 0 = 0)) = true := by decide +kernel
theorem mCh_113 : mChkM 113 = true := mCc_113
theorem mMk_114 : mMok 114 (mNa 114) := ⟨mW_in (p := 699) rfl rfl, mW_in (p := 15) rfl rfl, ⟨mCn_7.1, mCn_7.2.1, mDs_5⟩, by decide, mCn_7.2.2, ⟨mW_in (p := 698) rfl rfl, mPriv_in (i := 19) (q := (_, _)) rfl⟩, rfl⟩
theorem mCc_114 : (kX7_see.all (fun bk => mChkB 7 false cX7_see (mBp kX7_see) bk.1 bk.2) && decide (mBp kX7_see 0 = 0)) = true := by decide +kernel
theorem mCh_114 : mChkM 114 = true := mCc_114
theorem mMk_115 : mMok 115 (mNa 115) := ⟨mW_in (p := 261) rfl rfl, mW_in (p := 9) rfl rfl, ⟨mCn_8.1, mCn_8.2.1, mDs_1⟩, by decide, mCn_8.2.2, ⟨mW_in (p := 260) rfl rfl, rfl, rfl⟩, rfl⟩
theorem mCc_115 : (kX8_init.all (fun bk => mChkB 8 true cX8_init (mBp kX8_init) bk.1 bk.2) && decide (mBp kX8_init 0 = 0)) = true := by decide +kernel
theorem mCh_115 : mChkM 115 = true := mCc_115
theorem mMk_116 : mMok 116 (mNa 116) := ⟨mW_in (p := 453) rfl rfl, mW_in (p := 9) rfl rfl, ⟨mCn_8.1, mCn_8.2.1, mDs_27⟩, by decide, mCn_8.2.2, ⟨mW_in (p := 451) rfl rfl, mW_in (p := 452) rfl rfl⟩, rfl⟩
theorem mCc_116 : (kX8_begin.all (fun bk => mChkB 8 false cX8_begin (mBp kX8_begin) bk.1 bk.2) && decide (mBp kX8_begin 0 = 0)) = true := by decide +kernel
theorem mCh_116 : mChkM 116 = true := mCc_116
theorem mMk_117 : mMok 117 (mNa 117) := ⟨mW_in (p := 732) rfl rfl, mW_in (p := 9) rfl rfl, ⟨mCn_8.1, mCn_8.2.1, mDs_35⟩, by decide, mCn_8.2.2, ⟨mW_in (p := 730) rfl rfl, mW_in (p := 731) rfl rfl⟩, rfl⟩
theorem mCc_117 : (kX8_copy.all (fun bk => mChkB 8 false cX8_copy (mBp kX8_copy) bk.1 bk.2) && decide (mBp kX8_copy 0 = 0)) = true := by decide +kernel
theorem mCh_117 : mChkM 117 = true := mCc_117
theorem mMk_118 : mMok 118 (mNa 118) := ⟨mW_in (p := 800) rfl rfl, mW_in (p := 9) rfl rfl, ⟨mCn_8.1, mCn_8.2.1, mDs_27⟩, by decide, mCn_8.2.2, ⟨mW_in (p := 798) rfl rfl, mW_in (p := 799) rfl rfl⟩, rfl⟩
theorem mCc_118 : (kX8_pass.all (fun bk => mChkB 8 false cX8_pass (mBp kX8_pass) bk.1 bk.2) && decide (mBp kX8_pass 0 = 0)) = true := by decide +kernel
theorem mCh_118 : mChkM 118 = true := mCc_118
theorem mMk_119 : mMok 119 (mNa 119) := ⟨mW_in (p := 988) rfl rfl, mW_in (p := 9) rfl rfl, ⟨mCn_8.1, mCn_8.2.1, mDs_29⟩, by decide, mCn_8.2.2, ⟨mW_in (p := 987) rfl rfl, mPriv_in (i := 58) (q := (_, _)) rfl⟩, rfl⟩
theorem mCc_119 : (kX8_join.all (fun bk => mChkB 8 false cX8_join (mBp kX8_join) bk.1 bk.2) && decide (mBp kX8_join 0 = 0)) = true := by decide +kernel
theorem mCh_119 : mChkM 119 = true := mCc_119
theorem mMk_120 : mMok 120 (mNa 120) := ⟨mW_in (p := 1082) rfl rfl, mW_in (p := 9) rfl rfl, ⟨mCn_8.1, mCn_8.2.1, mDs_28⟩, by decide, mCn_8.2.2, ⟨mW_in (p := 1080) rfl rfl, mW_in (p := 1081) rfl rfl⟩, rfl⟩
theorem mCc_120 : (kX8_isStuck.all (fun bk => mChkB 8 false cX8_isStuck (mBp kX8_isStuck) bk.1 bk.2) && decide (mBp kX8_isStuck 0 = 0)) = true := by decide +kernel
theorem mCh_120 : mChkM 120 = true := mCc_120
theorem mMk_121 : mMok 121 (mNa 121) := ⟨mW_in (p := 1090) rfl rfl, mW_in (p := 9) rfl rfl, ⟨mCn_8.1, mCn_8.2.1, mDs_30⟩, by decide, mCn_8.2.2, ⟨mW_in (p := 1089) rfl rfl, mPriv_in (i := 59) (q := (_, _)) rfl⟩, rfl⟩
theorem mCc_121 : (kX8_wouldMove.all (fun bk => mChkB 8 false cX8_wouldMove (mBp kX8_wouldMove) bk.1 bk.2) && decide (mBp kX8_wouldMove 0 = 0)) = true := by decide +kernel
theorem mCh_121 : mChkM 121 = true := mCc_121
theorem mMk_122 : mMok 122 (mNa 122) := ⟨mW_in (p := 1103) rfl rfl, mW_in (p := 9) rfl rfl, ⟨mCn_8.1, mCn_8.2.1, mDs_0⟩, by decide, mCn_8.2.2, ⟨mW_in (p := 1101) rfl rfl, mW_in (p := 1102) rfl rfl⟩, rfl⟩
theorem mCc_122 : (kX8_haltedBits.all (fun bk => mChkB 8 false cX8_haltedBits (mBp kX8_haltedBits) bk.1 bk.2) && decide (mBp kX8_haltedBits 0 = 0)) = true := by decide +kernel
theorem mCh_122 : mChkM 122 = true := mCc_122
theorem mMk_123 : mMok 123 (mNa 123) := ⟨mW_in (p := 27) rfl rfl, mW_in (p := 1) rfl rfl, ⟨mCn_9.1, mCn_9.2.1, mDs_1⟩, by decide, mCn_9.2.2, ⟨mW_in (p := 26) rfl rfl, rfl, rfl⟩, rfl⟩
theorem mCc_123 : (kX9_init.all (fun bk => mChkB 9 true cX9_init (mBp kX9_init) bk.1 bk.2) && decide (mBp kX9_init 0 = 0)) = true := by decide +kernel
theorem mCh_123 : mChkM 123 = true := mCc_123
theorem mMk_124 : mMok 124 (mNa 124) := ⟨mW_in (p := 553) rfl rfl, mW_in (p := 1) rfl rfl, ⟨mCn_9.1, mCn_9.2.1, mDs_16⟩, by decide, mCn_9.2.2, ⟨mW_in (p := 551) rfl rfl, mW_in (p := 552) rfl rfl⟩, rfl⟩
theorem mCc_124 : (kX9_feed.all (fun bk => mChkB 9 false cX9_feed (mBp kX9_feed) bk.1 bk.2) && decide (mBp kX9_feed 0 = 0)) = true := by decide +kernel
theorem mCh_124 : mChkM 124 = true := mCc_124
theorem mMk_125 : mMok 125 (mNa 125) := ⟨mW_in (p := 557) rfl rfl, mW_in (p := 1) rfl rfl, ⟨mCn_9.1, mCn_9.2.1, mDs_5⟩, by decide, mCn_9.2.2, ⟨mW_in (p := 556) rfl rfl, mPriv_in (i := 1) (q := (_, _)) rfl⟩, rfl⟩
theorem mCc_125 : (kX9_append.all (fun bk => mChkB 9 false cX9_append (mBp kX9_append) bk.1 bk.2) && decide (mBp kX9_append 0 = 0)) = true := by decide +kernel
theorem mCh_125 : mChkM 125 = true := mCc_125
theorem mMk_126 : mMok 126 (mNa 126) := ⟨mW_in (p := 561) rfl rfl, mW_in (p := 1) rfl rfl, ⟨mCn_9.1, mCn_9.2.1, mDs_6⟩, by decide, mCn_9.2.2, ⟨mW_in (p := 559) rfl rfl, mW_in (p := 560) rfl rfl⟩, rfl⟩
theorem mCc_126 : (kX9_end.all (fun bk => mChkB 9 false cX9_end (mBp kX9_end) bk.1 bk.2) && decide (mBp kX9_end 0 = 0)) = true := by decide +kernel
theorem mCh_126 : mChkM 126 = true := mCc_126
theorem mMk_127 : mMok 127 (mNa 127) := ⟨mW_in (p := 565) rfl rfl, mW_in (p := 1) rfl rfl, ⟨mCn_9.1, mCn_9.2.1, mDs_0⟩, by decide, mCn_9.2.2, ⟨mW_in (p := 563) rfl rfl, mW_in (p := 564) rfl rfl⟩, rfl⟩
theorem mCc_127 : (kX9_text.all (fun bk => mChkB 9 false cX9_text (mBp kX9_text) bk.1 bk.2) && decide (mBp kX9_text 0 = 0)) = true := by decide +kernel
theorem mCh_127 : mChkM 127 = true := mCc_127
theorem mMk_128 : mMok 128 (mNa 128) := ⟨mW_in (p := 1139) rfl rfl, mW_in (p := 1) rfl rfl, ⟨mCn_9.1, mCn_9.2.1, mDs_7⟩, by decide, mCn_9.2.2, ⟨mW_in (p := 1137) rfl rfl, mW_in (p := 1138) rfl rfl⟩, rfl⟩
theorem mCc_128 : (kX9_code.all (fun bk => mChkB 9 false cX9_code (mBp kX9_code) bk.1 bk.2) && decide (mBp kX9_code 0 = 0)) = true := by decide +kernel
theorem mCh_128 : mChkM 128 = true := mCc_128
theorem mMk_129 : mMok 129 (mNa 129) := ⟨mW_in (p := 683) rfl rfl, mW_in (p := 1) rfl rfl, ⟨mCn_9.1, mCn_9.2.1, mDs_4⟩, by decide, mCn_9.2.2, ⟨mW_in (p := 681) rfl rfl, mW_in (p := 682) rfl rfl⟩, rfl⟩
theorem mCc_129 : (kX9_label.all (fun bk => mChkB 9 false cX9_label (mBp kX9_label) bk.1 bk.2) && decide (mBp kX9_label 0 = 0)) = true := by decide +kernel
theorem mCh_129 : mChkM 129 = true := mCc_129
theorem mMk_130 : mMok 130 (mNa 130) := ⟨mW_in (p := 687) rfl rfl, mW_in (p := 1) rfl rfl, ⟨mCn_9.1, mCn_9.2.1, mDs_7⟩, by decide, mCn_9.2.2, ⟨mW_in (p := 685) rfl rfl, mW_in (p := 686) rfl rfl⟩, rfl⟩
theorem mCc_130 : (kX9_reach.all (fun bk => mChkB 9 false cX9_reach (mBp kX9_reach) bk.1 bk.2) && decide (mBp kX9_reach 0 = 0)) = true := by decide +kernel
theorem mCh_130 : mChkM 130 = true := mCc_130
theorem mMk_131 : mMok 131 (mNa 131) := ⟨mW_in (p := 716) rfl rfl, mW_in (p := 1) rfl rfl, ⟨mCn_9.1, mCn_9.2.1, mDs_4⟩, by decide, mCn_9.2.2, ⟨mW_in (p := 714) rfl rfl, mW_in (p := 715) rfl rfl⟩, rfl⟩
theorem mCc_131 : (kX9_hog.all (fun bk => mChkB 9 false cX9_hog (mBp kX9_hog) bk.1 bk.2) && decide (mBp kX9_hog 0 = 0)) = true := by decide +kernel
theorem mCh_131 : mChkM 131 = true := mCc_131
theorem mMk_132 : mMok 132 (mNa 132) := ⟨mW_in (p := 724) rfl rfl, mW_in (p := 1) rfl rfl, ⟨mCn_9.1, mCn_9.2.1, mDs_4⟩, by decide, mCn_9.2.2, ⟨mW_in (p := 722) rfl rfl, mW_in (p := 723) rfl rfl⟩, rfl⟩
theorem mCc_132 : (kX9_slice.all (fun bk => mChkB 9 false cX9_slice (mBp kX9_slice) bk.1 bk.2) && decide (mBp kX9_slice 0 = 0)) = true := by decide +kernel
theorem mCh_132 : mChkM 132 = true := mCc_132
theorem mMk_133 : mMok 133 (mNa 133) := ⟨mW_in (p := 771) rfl rfl, mW_in (p := 1) rfl rfl, ⟨mCn_9.1, mCn_9.2.1, mDs_12⟩, by decide, mCn_9.2.2, ⟨mW_in (p := 769) rfl rfl, mW_in (p := 770) rfl rfl⟩, rfl⟩
theorem mCc_133 : (kX9_poke.all (fun bk => mChkB 9 false cX9_poke (mBp kX9_poke) bk.1 bk.2) && decide (mBp kX9_poke 0 = 0)) = true := by decide +kernel
theorem mCh_133 : mChkM 133 = true := mCc_133
theorem mMk_134 : mMok 134 (mNa 134) := ⟨mW_in (p := 781) rfl rfl, mW_in (p := 1) rfl rfl, ⟨mCn_9.1, mCn_9.2.1, mDs_15⟩, by decide, mCn_9.2.2, ⟨mW_in (p := 779) rfl rfl, mW_in (p := 780) rfl rfl⟩, rfl⟩
theorem mCc_134 : (kX9_start.all (fun bk => mChkB 9 false cX9_start (mBp kX9_start) bk.1 bk.2) && decide (mBp kX9_start 0 = 0)) = true := by decide +kernel
theorem mCh_134 : mChkM 134 = true := mCc_134
theorem mMk_135 : mMok 135 (mNa 135) := ⟨mW_in (p := 796) rfl rfl, mW_in (p := 1) rfl rfl, ⟨mCn_9.1, mCn_9.2.1, mDs_4⟩, by decide, mCn_9.2.2, ⟨mW_in (p := 794) rfl rfl, mW_in (p := 795) rfl rfl⟩, rfl⟩
theorem mCc_135 : (kX9_tick.all (fun bk => mChkB 9 false cX9_tick (mBp kX9_tick) bk.1 bk.2) && decide (mBp kX9_tick 0 = 0)) = true := by decide +kernel
theorem mCh_135 : mChkM 135 = true := mCc_135
theorem mMk_136 : mMok 136 (mNa 136) := ⟨mW_in (p := 1029) rfl rfl, mW_in (p := 1) rfl rfl, ⟨mCn_9.1, mCn_9.2.1, mDs_0⟩, by decide, mCn_9.2.2, ⟨mW_in (p := 1027) rfl rfl, mW_in (p := 1028) rfl rfl⟩, rfl⟩
theorem mCc_136 : (kX9_undo.all (fun bk => mChkB 9 false cX9_undo (mBp kX9_undo) bk.1 bk.2) && decide (mBp kX9_undo 0 = 0)) = true := by decide +kernel
theorem mCh_136 : mChkM 136 = true := mCc_136
theorem mMk_137 : mMok 137 (mNa 137) := ⟨mW_in (p := 1037) rfl rfl, mW_in (p := 1) rfl rfl, ⟨mCn_9.1, mCn_9.2.1, mDs_7⟩, by decide, mCn_9.2.2, ⟨mW_in (p := 1035) rfl rfl, mW_in (p := 1036) rfl rfl⟩, rfl⟩
theorem mCc_137 : (kX9_machine.all (fun bk => mChkB 9 false cX9_machine (mBp kX9_machine) bk.1 bk.2) && decide (mBp kX9_machine 0 = 0)) = true := by decide +kernel
theorem mCh_137 : mChkM 137 = true := mCc_137
theorem mMk_138 : mMok 138 (mNa 138) := ⟨mW_in (p := 1207) rfl rfl, mW_in (p := 1) rfl rfl, ⟨mCn_9.1, mCn_9.2.1, mDs_7⟩, by decide, mCn_9.2.2, ⟨mW_in (p := 1205) rfl rfl, mW_in (p := 1206) rfl rfl⟩, rfl⟩
theorem mCc_138 : (kX9_word.all (fun bk => mChkB 9 false cX9_word (mBp kX9_word) bk.1 bk.2) && decide (mBp kX9_word 0 = 0)) = true := by decide +kernel
theorem mCh_138 : mChkM 138 = true := mCc_138
theorem mMk_139 : mMok 139 (mNa 139) := ⟨mW_in (p := 1045) rfl rfl, mW_in (p := 1) rfl rfl, ⟨mCn_9.1, mCn_9.2.1, mDs_10⟩, by decide, mCn_9.2.2, ⟨mW_in (p := 1043) rfl rfl, mW_in (p := 1044) rfl rfl⟩, rfl⟩
theorem mCc_139 : (kX9_queue.all (fun bk => mChkB 9 false cX9_queue (mBp kX9_queue) bk.1 bk.2) && decide (mBp kX9_queue 0 = 0)) = true := by decide +kernel
theorem mCh_139 : mChkM 139 = true := mCc_139
theorem mMk_140 : mMok 140 (mNa 140) := ⟨mW_in (p := 1053) rfl rfl, mW_in (p := 1) rfl rfl, ⟨mCn_9.1, mCn_9.2.1, mDs_10⟩, by decide, mCn_9.2.2, ⟨mW_in (p := 1051) rfl rfl, mW_in (p := 1052) rfl rfl⟩, rfl⟩
theorem mCc_140 : (kX9_timer.all (fun bk => mChkB 9 false cX9_timer (mBp kX9_timer) bk.1 bk.2) && decide (mBp kX9_timer 0 = 0)) = true := by decide +kernel
theorem mCh_140 : mChkM 140 = true := mCc_140
theorem mMk_141 : mMok 141 (mNa 141) := ⟨mW_in (p := 1061) rfl rfl, mW_in (p := 1) rfl rfl, ⟨mCn_9.1, mCn_9.2.1, mDs_10⟩, by decide, mCn_9.2.2, ⟨mW_in (p := 1059) rfl rfl, mW_in (p := 1060) rfl rfl⟩, rfl⟩
theorem mCc_141 : (kX9_link.all (fun bk => mChkB 9 false cX9_link (mBp kX9_link) bk.1 bk.2) && decide (mBp kX9_link 0 = 0)) = true := by decide +kernel
theorem mCh_141 : mChkM 141 = true := mCc_141
theorem mMk_142 : mMok 142 (mNa 142) := ⟨mW_in (p := 1069) rfl rfl, mW_in (p := 1) rfl rfl, ⟨mCn_9.1, mCn_9.2.1, mDs_7⟩, by decide, mCn_9.2.2, ⟨mW_in (p := 1067) rfl rfl, mW_in (p := 1068) rfl rfl⟩, rfl⟩
theorem mCc_142 : (kX9_meeting.all (fun bk => mChkB 9 false cX9_meeting (mBp kX9_meeting) bk.1 bk.2) && decide (mBp kX9_meeting 0 = 0)) = true := by decide +kernel
theorem mCh_142 : mChkM 142 = true := mCc_142
theorem mMk_143 : mMok 143 (mNa 143) := ⟨mW_in (p := 1078) rfl rfl, mW_in (p := 1) rfl rfl, ⟨mCn_9.1, mCn_9.2.1, mDs_2⟩, by decide, mCn_9.2.2, ⟨mW_in (p := 1076) rfl rfl, mW_in (p := 1077) rfl rfl⟩, rfl⟩
theorem mCc_143 : (kX9_stuck.all (fun bk => mChkB 9 false cX9_stuck (mBp kX9_stuck) bk.1 bk.2) && decide (mBp kX9_stuck 0 = 0)) = true := by decide +kernel
theorem mCh_143 : mChkM 143 = true := mCc_143
theorem mMk_144 : mMok 144 (mNa 144) := ⟨mW_in (p := 1094) rfl rfl, mW_in (p := 1) rfl rfl, ⟨mCn_9.1, mCn_9.2.1, mDs_7⟩, by decide, mCn_9.2.2, ⟨mW_in (p := 1092) rfl rfl, mW_in (p := 1093) rfl rfl⟩, rfl⟩
theorem mCc_144 : (kX9_ahead.all (fun bk => mChkB 9 false cX9_ahead (mBp kX9_ahead) bk.1 bk.2) && decide (mBp kX9_ahead 0 = 0)) = true := by decide +kernel
theorem mCh_144 : mChkM 144 = true := mCc_144
theorem mMk_145 : mMok 145 (mNa 145) := ⟨mW_in (p := 1099) rfl rfl, mW_in (p := 1) rfl rfl, ⟨mCn_9.1, mCn_9.2.1, mDs_6⟩, by decide, mCn_9.2.2, ⟨mW_in (p := 1098) rfl rfl, mPriv_in (i := 60) (q := (_, _)) rfl⟩, rfl⟩
theorem mCc_145 : (kX9_isSoFirst.all (fun bk => mChkB 9 false cX9_isSoFirst (mBp kX9_isSoFirst) bk.1 bk.2) && decide (mBp kX9_isSoFirst 0 = 0)) = true := by decide +kernel
theorem mCh_145 : mChkM 145 = true := mCc_145
theorem mMk_146 : mMok 146 (mNa 146) := ⟨mW_in (p := 1107) rfl rfl, mW_in (p := 1) rfl rfl, ⟨mCn_9.1, mCn_9.2.1, mDs_10⟩, by decide, mCn_9.2.2, ⟨mW_in (p := 1105) rfl rfl, mW_in (p := 1106) rfl rfl⟩, rfl⟩
theorem mCc_146 : (kX9_share.all (fun bk => mChkB 9 false cX9_share (mBp kX9_share) bk.1 bk.2) && decide (mBp kX9_share 0 = 0)) = true := by decide +kernel
theorem mCh_146 : mChkM 146 = true := mCc_146
theorem mMk_147 : mMok 147 (mNa 147) := ⟨mW_in (p := 1111) rfl rfl, mW_in (p := 1) rfl rfl, ⟨mCn_9.1, mCn_9.2.1, mDs_13⟩, by decide, mCn_9.2.2, ⟨mW_in (p := 1109) rfl rfl, mW_in (p := 1110) rfl rfl⟩, rfl⟩
theorem mCc_147 : (kX9_until.all (fun bk => mChkB 9 false cX9_until (mBp kX9_until) bk.1 bk.2) && decide (mBp kX9_until 0 = 0)) = true := by decide +kernel
theorem mCh_147 : mChkM 147 = true := mCc_147
theorem mMk_148 : mMok 148 (mNa 148) := ⟨mW_in (p := 1115) rfl rfl, mW_in (p := 1) rfl rfl, ⟨mCn_9.1, mCn_9.2.1, mDs_10⟩, by decide, mCn_9.2.2, ⟨mW_in (p := 1113) rfl rfl, mW_in (p := 1114) rfl rfl⟩, rfl⟩
theorem mCc_148 : (kX9_slices.all (fun bk => mChkB 9 false cX9_slices (mBp kX9_slices) bk.1 bk.2) && decide (mBp kX9_slices 0 = 0)) = true := by decide +kernel
theorem mCh_148 : mChkM 148 = true := mCc_148
theorem mMk_149 : mMok 149 (mNa 149) := ⟨mW_in (p := 1119) rfl rfl, mW_in (p := 1) rfl rfl, ⟨mCn_9.1, mCn_9.2.1, mDs_9⟩, by decide, mCn_9.2.2, ⟨mW_in (p := 1118) rfl rfl, mPriv_in (i := 61) (q := (_, _)) rfl⟩, rfl⟩
theorem mCc_149 : (kX9_isFound.all (fun bk => mChkB 9 false cX9_isFound (mBp kX9_isFound) bk.1 bk.2) && decide (mBp kX9_isFound 0 = 0)) = true := by decide +kernel
theorem mCh_149 : mChkM 149 = true := mCc_149
theorem mMk_150 : mMok 150 (mNa 150) := ⟨mW_in (p := 1123) rfl rfl, mW_in (p := 1) rfl rfl, ⟨mCn_9.1, mCn_9.2.1, mDs_6⟩, by decide, mCn_9.2.2, ⟨mW_in (p := 1121) rfl rfl, mW_in (p := 1122) rfl rfl⟩, rfl⟩
theorem mCc_150 : (kX9_keep.all (fun bk => mChkB 9 false cX9_keep (mBp kX9_keep) bk.1 bk.2) && decide (mBp kX9_keep 0 = 0)) = true := by decide +kernel
theorem mCh_150 : mChkM 150 = true := mCc_150
theorem mMk_151 : mMok 151 (mNa 151) := ⟨mW_in (p := 1127) rfl rfl, mW_in (p := 1) rfl rfl, ⟨mCn_9.1, mCn_9.2.1, mDs_6⟩, by decide, mCn_9.2.2, ⟨mW_in (p := 1125) rfl rfl, mW_in (p := 1126) rfl rfl⟩, rfl⟩
theorem mCc_151 : (kX9_back.all (fun bk => mChkB 9 false cX9_back (mBp kX9_back) bk.1 bk.2) && decide (mBp kX9_back 0 = 0)) = true := by decide +kernel
theorem mCh_151 : mChkM 151 = true := mCc_151
theorem mMk_152 : mMok 152 (mNa 152) := ⟨mW_in (p := 1131) rfl rfl, mW_in (p := 1) rfl rfl, ⟨mCn_9.1, mCn_9.2.1, mDs_4⟩, by decide, mCn_9.2.2, ⟨mW_in (p := 1129) rfl rfl, mW_in (p := 1130) rfl rfl⟩, rfl⟩
theorem mCc_152 : (kX9_count.all (fun bk => mChkB 9 false cX9_count (mBp kX9_count) bk.1 bk.2) && decide (mBp kX9_count 0 = 0)) = true := by decide +kernel
theorem mCh_152 : mChkM 152 = true := mCc_152
theorem mMk_153 : mMok 153 (mNa 153) := ⟨mW_in (p := 774) rfl rfl, mW_in (p := 1) rfl rfl, ⟨mCn_9.1, mCn_9.2.1, mDs_6⟩, by decide, mCn_9.2.2, mW_in (p := 773) rfl rfl, rfl⟩
theorem mCc_153 : (kX9_isMachine.all (fun bk => mChkB 9 false cX9_isMachine (mBp kX9_isMachine) bk.1 bk.2) && decide (mBp kX9_isMachine 0 = 0)) = true := by decide +kernel
theorem mCh_153 : mChkM 153 = true := mCc_153
theorem mMk_154 : mMok 154 (mNa 154) := ⟨mW_in (p := 777) rfl rfl, mW_in (p := 1) rfl rfl, ⟨mCn_9.1, mCn_9.2.1, mDs_6⟩, by decide, mCn_9.2.2, mW_in (p := 776) rfl rfl, rfl⟩
theorem mCc_154 : (kX9_isPlace.all (fun bk => mChkB 9 false cX9_isPlace (mBp kX9_isPlace) bk.1 bk.2) && decide (mBp kX9_isPlace 0 = 0)) = true := by decide +kernel
theorem mCh_154 : mChkM 154 = true := mCc_154
theorem mMk_155 : mMok 155 (mNa 155) := ⟨mW_in (p := 878) rfl rfl, mW_in (p := 1) rfl rfl, ⟨mCn_9.1, mCn_9.2.1, mDs_9⟩, by decide, mCn_9.2.2, mW_in (p := 877) rfl rfl, rfl⟩
theorem mCc_155 : (kX9_arePlaces.all (fun bk => mChkB 9 false cX9_arePlaces (mBp kX9_arePlaces) bk.1 bk.2) && decide (mBp kX9_arePlaces 0 = 0)) = true := by decide +kernel
theorem mCh_155 : mChkM 155 = true := mCc_155
theorem mMk_156 : mMok 156 (mNa 156) := ⟨mW_in (p := 784) rfl rfl, mW_in (p := 1) rfl rfl, ⟨mCn_9.1, mCn_9.2.1, mDs_6⟩, by decide, mCn_9.2.2, mW_in (p := 783) rfl rfl, rfl⟩
theorem mCc_156 : (kX9_isW.all (fun bk => mChkB 9 false cX9_isW (mBp kX9_isW) bk.1 bk.2) && decide (mBp kX9_isW 0 = 0)) = true := by decide +kernel
theorem mCh_156 : mChkM 156 = true := mCc_156
theorem mMk_157 : mMok 157 (mNa 157) := ⟨mW_in (p := 787) rfl rfl, mW_in (p := 1) rfl rfl, ⟨mCn_9.1, mCn_9.2.1, mDs_6⟩, by decide, mCn_9.2.2, mW_in (p := 786) rfl rfl, rfl⟩
theorem mCc_157 : (kX9_isPriority.all (fun bk => mChkB 9 false cX9_isPriority (mBp kX9_isPriority) bk.1 bk.2) && decide (mBp kX9_isPriority 0 = 0)) = true := by decide +kernel
theorem mCh_157 : mChkM 157 = true := mCc_157
theorem mMk_158 : mMok 158 (mNa 158) := ⟨mW_in (p := 512) rfl rfl, mW_in (p := 1) rfl rfl, ⟨mCn_9.1, mCn_9.2.1, mDs_6⟩, by decide, mCn_9.2.2, mW_in (p := 495) rfl rfl, rfl⟩
theorem mCc_158 : (kX9_isProcess.all (fun bk => mChkB 9 false cX9_isProcess (mBp kX9_isProcess) bk.1 bk.2) && decide (mBp kX9_isProcess 0 = 0)) = true := by decide +kernel
theorem mCh_158 : mChkM 158 = true := mCc_158
theorem mMk_159 : mMok 159 (mNa 159) := ⟨mW_in (p := 931) rfl rfl, mW_in (p := 1) rfl rfl, ⟨mCn_9.1, mCn_9.2.1, mDs_9⟩, by decide, mCn_9.2.2, mW_in (p := 930) rfl rfl, rfl⟩
theorem mCc_159 : (kX9_isAfter.all (fun bk => mChkB 9 false cX9_isAfter (mBp kX9_isAfter) bk.1 bk.2) && decide (mBp kX9_isAfter 0 = 0)) = true := by decide +kernel
theorem mCh_159 : mChkM 159 = true := mCc_159
theorem mMk_160 : mMok 160 (mNa 160) := ⟨mW_in (p := 1212) rfl rfl, mW_in (p := 17) rfl rfl, ⟨mCn_10.1, mCn_10.2.1, mDs_1⟩, by decide, mCn_10.2.2, ⟨mW_in (p := 1211) rfl rfl, rfl, rfl⟩, rfl⟩
theorem mCc_160 : (kX10_init.all (fun bk => mChkB 10 true cX10_init (mBp kX10_init) bk.1 bk.2) && decide (mBp kX10_init 0 = 0)) = true := by decide +kernel
theorem mCh_160 : mChkM 160 = true := mCc_160
theorem mMk_161 : mMok 161 (mNa 161) := ⟨mW_in (p := 1432) rfl rfl, mW_in (p := 17) rfl rfl, ⟨mCn_10.1, mCn_10.2.1, mDs_0⟩, by decide, mCn_10.2.2, ⟨mW_in (p := 1430) rfl rfl, mW_in (p := 1431) rfl rfl⟩, rfl⟩
theorem mCc_161 : (kX10_thrown.all (fun bk => mChkB 10 false cX10_thrown (mBp kX10_thrown) bk.1 bk.2) && decide (mBp kX10_thrown 0 = 0)) = true := by decide +kernel
theorem mCh_161 : mChkM 161 = true := mCc_161
theorem mMk_162 : mMok 162 (mNa 162) := ⟨mW_in (p := 1249) rfl rfl, mW_in (p := 17) rfl rfl, ⟨mCn_10.1, mCn_10.2.1, mDs_12⟩, by decide, mCn_10.2.2, mW_in (p := 1248) rfl rfl, rfl⟩
theorem mCc_162 : (kX10_isIn.all (fun bk => mChkB 10 false cX10_isIn (mBp kX10_isIn) bk.1 bk.2) && decide (mBp kX10_isIn 0 = 0)) = true := by decide +kernel
theorem mCh_162 : mChkM 162 = true := mCc_162
theorem mMk_163 : mMok 163 (mNa 163) := ⟨mW_in (p := 1228) rfl rfl, mW_in (p := 17) rfl rfl, ⟨mCn_10.1, mCn_10.2.1, mDs_4⟩, by decide, mCn_10.2.2, mW_in (p := 1227) rfl rfl, rfl⟩
theorem mCc_163 : (kX10_base.all (fun bk => mChkB 10 false cX10_base (mBp kX10_base) bk.1 bk.2) && decide (mBp kX10_base 0 = 0)) = true := by decide +kernel
theorem mCh_163 : mChkM 163 = true := mCc_163
theorem mMk_164 : mMok 164 (mNa 164) := ⟨mW_in (p := 1440) rfl rfl, mW_in (p := 17) rfl rfl, ⟨mCn_10.1, mCn_10.2.1, mDs_5⟩, by decide, mCn_10.2.2, ⟨mW_in (p := 1439) rfl rfl, mPriv_in (i := 70) (q := (_, _)) rfl⟩, rfl⟩
theorem mCc_164 : (kX10_types.all (fun bk => mChkB 10 false cX10_types (mBp kX10_types) bk.1 bk.2) && decide (mBp kX10_types 0 = 0)) = true := by decide +kernel
theorem mCh_164 : mChkM 164 = true := mCc_164
theorem mMk_165 : mMok 165 (mNa 165) := ⟨mW_in (p := 1436) rfl rfl, mW_in (p := 17) rfl rfl, ⟨mCn_10.1, mCn_10.2.1, mDs_16⟩, by decide, mCn_10.2.2, ⟨mW_in (p := 1434) rfl rfl, mW_in (p := 1435) rfl rfl⟩, rfl⟩
theorem mCc_165 : (kX10_feed.all (fun bk => mChkB 10 false cX10_feed (mBp kX10_feed) bk.1 bk.2) && decide (mBp kX10_feed 0 = 0)) = true := by decide +kernel
theorem mCh_165 : mChkM 165 = true := mCc_165
theorem mMk_166 : mMok 166 (mNa 166) := ⟨mW_in (p := 1444) rfl rfl, mW_in (p := 17) rfl rfl, ⟨mCn_10.1, mCn_10.2.1, mDs_6⟩, by decide, mCn_10.2.2, ⟨mW_in (p := 1442) rfl rfl, mW_in (p := 1443) rfl rfl⟩, rfl⟩
theorem mCc_166 : (kX10_end.all (fun bk => mChkB 10 false cX10_end (mBp kX10_end) bk.1 bk.2) && decide (mBp kX10_end 0 = 0)) = true := by decide +kernel
theorem mCh_166 : mChkM 166 = true := mCc_166
theorem mMk_167 : mMok 167 (mNa 167) := ⟨mW_in (p := 1459) rfl rfl, mW_in (p := 17) rfl rfl, ⟨mCn_10.1, mCn_10.2.1, mDs_4⟩, by decide, mCn_10.2.2, ⟨mW_in (p := 1458) rfl rfl, mPriv_in (i := 72) (q := (_, _)) rfl⟩, rfl⟩
theorem mCc_167 : (kX10_seen.all (fun bk => mChkB 10 false cX10_seen (mBp kX10_seen) bk.1 bk.2) && decide (mBp kX10_seen 0 = 0)) = true := by decide +kernel
theorem mCh_167 : mChkM 167 = true := mCc_167
theorem mMk_168 : mMok 168 (mNa 168) := ⟨mW_in (p := 1462) rfl rfl, mW_in (p := 17) rfl rfl, ⟨mCn_10.1, mCn_10.2.1, mDs_6⟩, by decide, mCn_10.2.2, mW_in (p := 1461) rfl rfl, rfl⟩
theorem mCc_168 : (kX10_isDigit.all (fun bk => mChkB 10 false cX10_isDigit (mBp kX10_isDigit) bk.1 bk.2) && decide (mBp kX10_isDigit 0 = 0)) = true := by decide +kernel
theorem mCh_168 : mChkM 168 = true := mCc_168
theorem mMk_169 : mMok 169 (mNa 169) := ⟨mW_in (p := 1455) rfl rfl, mW_in (p := 17) rfl rfl, ⟨mCn_10.1, mCn_10.2.1, mDs_6⟩, by decide, mCn_10.2.2, mW_in (p := 1454) rfl rfl, rfl⟩
theorem mCc_169 : (kX10_isLetter.all (fun bk => mChkB 10 false cX10_isLetter (mBp kX10_isLetter) bk.1 bk.2) && decide (mBp kX10_isLetter 0 = 0)) = true := by decide +kernel
theorem mCh_169 : mChkM 169 = true := mCc_169
theorem mMk_170 : mMok 170 (mNa 170) := ⟨mW_in (p := 1452) rfl rfl, mW_in (p := 17) rfl rfl, ⟨mCn_10.1, mCn_10.2.1, mDs_1⟩, by decide, mCn_10.2.2, ⟨mW_in (p := 1451) rfl rfl, mPriv_in (i := 71) (q := (_, _)) rfl⟩, rfl⟩
theorem mCc_170 : (kX10_go.all (fun bk => mChkB 10 false cX10_go (mBp kX10_go) bk.1 bk.2) && decide (mBp kX10_go 0 = 0)) = true := by decide +kernel
theorem mCh_170 : mChkM 170 = true := mCc_170
theorem mMk_171 : mMok 171 (mNa 171) := ⟨mW_in (p := 1486) rfl rfl, mW_in (p := 17) rfl rfl, ⟨mCn_10.1, mCn_10.2.1, mDs_6⟩, by decide, mCn_10.2.2, ⟨mW_in (p := 1485) rfl rfl, mPriv_in (i := 78) (q := (_, _)) rfl⟩, rfl⟩
theorem mCc_171 : (kX10_isSign.all (fun bk => mChkB 10 false cX10_isSign (mBp kX10_isSign) bk.1 bk.2) && decide (mBp kX10_isSign 0 = 0)) = true := by decide +kernel
theorem mCh_171 : mChkM 171 = true := mCc_171
theorem mMk_172 : mMok 172 (mNa 172) := ⟨mW_in (p := 1482) rfl rfl, mW_in (p := 17) rfl rfl, ⟨mCn_10.1, mCn_10.2.1, mDs_6⟩, by decide, mCn_10.2.2, ⟨mW_in (p := 1481) rfl rfl, mPriv_in (i := 77) (q := (_, _)) rfl⟩, rfl⟩
theorem mCc_172 : (kX10_bad.all (fun bk => mChkB 10 false cX10_bad (mBp kX10_bad) bk.1 bk.2) && decide (mBp kX10_bad 0 = 0)) = true := by decide +kernel
theorem mCh_172 : mChkM 172 = true := mCc_172
theorem mMk_173 : mMok 173 (mNa 173) := ⟨mW_in (p := 1474) rfl rfl, mW_in (p := 17) rfl rfl, ⟨mCn_10.1, mCn_10.2.1, mDs_0⟩, by decide, mCn_10.2.2, ⟨mW_in (p := 1473) rfl rfl, mPriv_in (i := 75) (q := (_, _)) rfl⟩, rfl⟩
theorem mCc_173 : (kX10_nameHere.all (fun bk => mChkB 10 false cX10_nameHere (mBp kX10_nameHere) bk.1 bk.2) && decide (mBp kX10_nameHere 0 = 0)) = true := by decide +kernel
theorem mCh_173 : mChkM 173 = true := mCc_173
theorem mMk_174 : mMok 174 (mNa 174) := ⟨mW_in (p := 1221) rfl rfl, mW_in (p := 17) rfl rfl, ⟨mCn_10.1, mCn_10.2.1, mDs_1⟩, by decide, mCn_10.2.2, ⟨mW_in (p := 1220) rfl rfl, mPriv_in (i := 63) (q := (_, _)) rfl⟩, rfl⟩
theorem mCc_174 : (kX10_plain.all (fun bk => mChkB 10 false cX10_plain (mBp kX10_plain) bk.1 bk.2) && decide (mBp kX10_plain 0 = 0)) = true := by decide +kernel
theorem mCh_174 : mChkM 174 = true := mCc_174
theorem mMk_175 : mMok 175 (mNa 175) := ⟨mW_in (p := 1494) rfl rfl, mW_in (p := 17) rfl rfl, ⟨mCn_10.1, mCn_10.2.1, mDs_9⟩, by decide, mCn_10.2.2, ⟨mW_in (p := 1493) rfl rfl, mPriv_in (i := 80) (q := (_, _)) rfl⟩, rfl⟩
theorem mCc_175 : (kX10_reads.all (fun bk => mChkB 10 false cX10_reads (mBp kX10_reads) bk.1 bk.2) && decide (mBp kX10_reads 0 = 0)) = true := by decide +kernel
theorem mCh_175 : mChkM 175 = true := mCc_175
theorem mMk_176 : mMok 176 (mNa 176) := ⟨mW_in (p := 1498) rfl rfl, mW_in (p := 17) rfl rfl, ⟨mCn_10.1, mCn_10.2.1, mDs_6⟩, by decide, mCn_10.2.2, ⟨mW_in (p := 1497) rfl rfl, mPriv_in (i := 81) (q := (_, _)) rfl⟩, rfl⟩
theorem mCc_176 : (kX10_readsLabel.all (fun bk => mChkB 10 false cX10_readsLabel (mBp kX10_readsLabel) bk.1 bk.2) && decide (mBp kX10_readsLabel 0 = 0)) = true := by decide +kernel
theorem mCh_176 : mChkM 176 = true := mCc_176
theorem mMk_177 : mMok 177 (mNa 177) := ⟨mW_in (p := 1502) rfl rfl, mW_in (p := 17) rfl rfl, ⟨mCn_10.1, mCn_10.2.1, mDs_2⟩, by decide, mCn_10.2.2, ⟨mW_in (p := 1501) rfl rfl, mPriv_in (i := 82) (q := (_, _)) rfl⟩, rfl⟩
theorem mCc_177 : (kX10_readsSlice.all (fun bk => mChkB 10 false cX10_readsSlice (mBp kX10_readsSlice) bk.1 bk.2) && decide (mBp kX10_readsSlice 0 = 0)) = true := by decide +kernel
theorem mCh_177 : mChkM 177 = true := mCc_177
theorem mMk_178 : mMok 178 (mNa 178) := ⟨mW_in (p := 1506) rfl rfl, mW_in (p := 17) rfl rfl, ⟨mCn_10.1, mCn_10.2.1, mDs_2⟩, by decide, mCn_10.2.2, ⟨mW_in (p := 1505) rfl rfl, mPriv_in (i := 83) (q := (_, _)) rfl⟩, rfl⟩
theorem mCc_178 : (kX10_readsWord.all (fun bk => mChkB 10 false cX10_readsWord (mBp kX10_readsWord) bk.1 bk.2) && decide (mBp kX10_readsWord 0 = 0)) = true := by decide +kernel
theorem mCh_178 : mChkM 178 = true := mCc_178
theorem mMk_179 : mMok 179 (mNa 179) := ⟨mW_in (p := 1514) rfl rfl, mW_in (p := 17) rfl rfl, ⟨mCn_10.1, mCn_10.2.1, mDs_9⟩, by decide, mCn_10.2.2, ⟨mW_in (p := 1513) rfl rfl, mPriv_in (i := 85) (q := (_, _)) rfl⟩, rfl⟩
theorem mCc_179 : (kX10_readsLink.all (fun bk => mChkB 10 false cX10_readsLink (mBp kX10_readsLink) bk.1 bk.2) && decide (mBp kX10_readsLink 0 = 0)) = true := by decide +kernel
theorem mCh_179 : mChkM 179 = true := mCc_179
theorem mMk_180 : mMok 180 (mNa 180) := ⟨mW_in (p := 1510) rfl rfl, mW_in (p := 17) rfl rfl, ⟨mCn_10.1, mCn_10.2.1, mDs_2⟩, by decide, mCn_10.2.2, ⟨mW_in (p := 1509) rfl rfl, mPriv_in (i := 84) (q := (_, _)) rfl⟩, rfl⟩
theorem mCc_180 : (kX10_readsJoin.all (fun bk => mChkB 10 false cX10_readsJoin (mBp kX10_readsJoin) bk.1 bk.2) && decide (mBp kX10_readsJoin 0 = 0)) = true := by decide +kernel
theorem mCh_180 : mChkM 180 = true := mCc_180
theorem mMk_181 : mMok 181 (mNa 181) := ⟨mW_in (p := 1518) rfl rfl, mW_in (p := 17) rfl rfl, ⟨mCn_10.1, mCn_10.2.1, mDs_2⟩, by decide, mCn_10.2.2, ⟨mW_in (p := 1517) rfl rfl, mPriv_in (i := 86) (q := (_, _)) rfl⟩, rfl⟩
theorem mCc_181 : (kX10_readsRun.all (fun bk => mChkB 10 false cX10_readsRun (mBp kX10_readsRun) bk.1 bk.2) && decide (mBp kX10_readsRun 0 = 0)) = true := by decide +kernel
theorem mCh_181 : mChkM 181 = true := mCc_181
theorem mMk_182 : mMok 182 (mNa 182) := ⟨mW_in (p := 1490) rfl rfl, mW_in (p := 17) rfl rfl, ⟨mCn_10.1, mCn_10.2.1, mDs_2⟩, by decide, mCn_10.2.2, ⟨mW_in (p := 1489) rfl rfl, mPriv_in (i := 79) (q := (_, _)) rfl⟩, rfl⟩
theorem mCc_182 : (kX10_readsCode.all (fun bk => mChkB 10 false cX10_readsCode (mBp kX10_readsCode) bk.1 bk.2) && decide (mBp kX10_readsCode 0 = 0)) = true := by decide +kernel
theorem mCh_182 : mChkM 182 = true := mCc_182
theorem mMk_183 : mMok 183 (mNa 183) := ⟨mW_in (p := 1478) rfl rfl, mW_in (p := 17) rfl rfl, ⟨mCn_10.1, mCn_10.2.1, mDs_2⟩, by decide, mCn_10.2.2, ⟨mW_in (p := 1477) rfl rfl, mPriv_in (i := 76) (q := (_, _)) rfl⟩, rfl⟩
theorem mCc_183 : (kX10_readsLabelled.all (fun bk => mChkB 10 false cX10_readsLabelled (mBp kX10_readsLabelled) bk.1 bk.2) && decide (mBp kX10_readsLabelled 0 = 0)) = true := by decide +kernel
theorem mCh_183 : mChkM 183 = true := mCc_183
theorem mMk_184 : mMok 184 (mNa 184) := ⟨mW_in (p := 1470) rfl rfl, mW_in (p := 17) rfl rfl, ⟨mCn_10.1, mCn_10.2.1, mDs_2⟩, by decide, mCn_10.2.2, ⟨mW_in (p := 1469) rfl rfl, mPriv_in (i := 74) (q := (_, _)) rfl⟩, rfl⟩
theorem mCc_184 : (kX10_readsLine.all (fun bk => mChkB 10 false cX10_readsLine (mBp kX10_readsLine) bk.1 bk.2) && decide (mBp kX10_readsLine 0 = 0)) = true := by decide +kernel
theorem mCh_184 : mChkM 184 = true := mCc_184
theorem mMk_185 : mMok 185 (mNa 185) := ⟨mW_in (p := 1466) rfl rfl, mW_in (p := 17) rfl rfl, ⟨mCn_10.1, mCn_10.2.1, mDs_2⟩, by decide, mCn_10.2.2, ⟨mW_in (p := 1465) rfl rfl, mPriv_in (i := 73) (q := (_, _)) rfl⟩, rfl⟩
theorem mCc_185 : (kX10_readsAll.all (fun bk => mChkB 10 false cX10_readsAll (mBp kX10_readsAll) bk.1 bk.2) && decide (mBp kX10_readsAll 0 = 0)) = true := by decide +kernel
theorem mCh_185 : mChkM 185 = true := mCc_185
theorem mMk_186 : mMok 186 (mNa 186) := ⟨mW_in (p := 1538) rfl rfl, mW_in (p := 17) rfl rfl, ⟨mCn_10.1, mCn_10.2.1, mDs_2⟩, by decide, mCn_10.2.2, ⟨mW_in (p := 1537) rfl rfl, mPriv_in (i := 87) (q := (_, _)) rfl⟩, rfl⟩
theorem mCc_186 : (kX10_findsLabels.all (fun bk => mChkB 10 false cX10_findsLabels (mBp kX10_findsLabels) bk.1 bk.2) && decide (mBp kX10_findsLabels 0 = 0)) = true := by decide +kernel
theorem mCh_186 : mChkM 186 = true := mCc_186
theorem mMk_187 : mMok 187 (mNa 187) := ⟨mW_in (p := 1448) rfl rfl, mW_in (p := 17) rfl rfl, ⟨mCn_10.1, mCn_10.2.1, mDs_0⟩, by decide, mCn_10.2.2, ⟨mW_in (p := 1446) rfl rfl, mW_in (p := 1447) rfl rfl⟩, rfl⟩
theorem mCc_187 : (kX10_text.all (fun bk => mChkB 10 false cX10_text (mBp kX10_text) bk.1 bk.2) && decide (mBp kX10_text 0 = 0)) = true := by decide +kernel
theorem mCh_187 : mChkM 187 = true := mCc_187
theorem mMk_188 : mMok 188 (mNa 188) := ⟨mW_in (p := 1225) rfl rfl, mW_in (p := 17) rfl rfl, ⟨mCn_10.1, mCn_10.2.1, mDs_1⟩, by decide, mCn_10.2.2, ⟨mW_in (p := 1224) rfl rfl, mPriv_in (i := 64) (q := (_, _)) rfl⟩, rfl⟩
theorem mCc_188 : (kX10_begins.all (fun bk => mChkB 10 false cX10_begins (mBp kX10_begins) bk.1 bk.2) && decide (mBp kX10_begins 0 = 0)) = true := by decide +kernel
theorem mCh_188 : mChkM 188 = true := mCc_188
theorem mMk_189 : mMok 189 (mNa 189) := ⟨mW_in (p := 1253) rfl rfl, mW_in (p := 17) rfl rfl, ⟨mCn_10.1, mCn_10.2.1, mDs_4⟩, by decide, mCn_10.2.2, ⟨mW_in (p := 1252) rfl rfl, mPriv_in (i := 68) (q := (_, _)) rfl⟩, rfl⟩
theorem mCc_189 : (kX10_get.all (fun bk => mChkB 10 false cX10_get (mBp kX10_get) bk.1 bk.2) && decide (mBp kX10_get 0 = 0)) = true := by decide +kernel
theorem mCh_189 : mChkM 189 = true := mCc_189
theorem mMk_190 : mMok 190 (mNa 190) := ⟨mW_in (p := 1257) rfl rfl, mW_in (p := 17) rfl rfl, ⟨mCn_10.1, mCn_10.2.1, mDs_8⟩, by decide, mCn_10.2.2, ⟨mW_in (p := 1256) rfl rfl, mPriv_in (i := 69) (q := (_, _)) rfl⟩, rfl⟩
theorem mCc_190 : (kX10_set.all (fun bk => mChkB 10 false cX10_set (mBp kX10_set) bk.1 bk.2) && decide (mBp kX10_set 0 = 0)) = true := by decide +kernel
theorem mCh_190 : mChkM 190 = true := mCc_190
theorem mMk_191 : mMok 191 (mNa 191) := ⟨mW_in (p := 1235) rfl rfl, mW_in (p := 17) rfl rfl, ⟨mCn_10.1, mCn_10.2.1, mDs_6⟩, by decide, mCn_10.2.2, mW_in (p := 1234) rfl rfl, rfl⟩
theorem mCc_191 : (kX10_isPlace.all (fun bk => mChkB 10 false cX10_isPlace (mBp kX10_isPlace) bk.1 bk.2) && decide (mBp kX10_isPlace 0 = 0)) = true := by decide +kernel
theorem mCh_191 : mChkM 191 = true := mCc_191
theorem mMk_192 : mMok 192 (mNa 192) := ⟨mW_in (p := 1246) rfl rfl, mW_in (p := 17) rfl rfl, ⟨mCn_10.1, mCn_10.2.1, mDs_6⟩, by decide, mCn_10.2.2, mW_in (p := 1245) rfl rfl, rfl⟩
theorem mCc_192 : (kX10_isProcess.all (fun bk => mChkB 10 false cX10_isProcess (mBp kX10_isProcess) bk.1 bk.2) && decide (mBp kX10_isProcess 0 = 0)) = true := by decide +kernel
theorem mCh_192 : mChkM 192 = true := mCc_192
theorem mMk_193 : mMok 193 (mNa 193) := ⟨mW_in (p := 1239) rfl rfl, mW_in (p := 17) rfl rfl, ⟨mCn_10.1, mCn_10.2.1, mDs_37⟩, by decide, mCn_10.2.2, ⟨mW_in (p := 1238) rfl rfl, mPriv_in (i := 66) (q := (_, _)) rfl⟩, rfl⟩
theorem mCc_193 : (kX10_needs.all (fun bk => mChkB 10 false cX10_needs (mBp kX10_needs) bk.1 bk.2) && decide (mBp kX10_needs 0 = 0)) = true := by decide +kernel
theorem mCh_193 : mChkM 193 = true := mCc_193
theorem mMk_194 : mMok 194 (mNa 194) := ⟨mW_in (p := 1621) rfl rfl, mW_in (p := 17) rfl rfl, ⟨mCn_10.1, mCn_10.2.1, mDs_4⟩, by decide, mCn_10.2.2, ⟨mW_in (p := 1620) rfl rfl, mPriv_in (i := 98) (q := (_, _)) rfl⟩, rfl⟩
theorem mCc_194 : (kX10_at.all (fun bk => mChkB 10 false cX10_at (mBp kX10_at) bk.1 bk.2) && decide (mBp kX10_at 0 = 0)) = true := by decide +kernel
theorem mCh_194 : mChkM 194 = true := mCc_194
theorem mMk_195 : mMok 195 (mNa 195) := ⟨mW_in (p := 1232) rfl rfl, mW_in (p := 17) rfl rfl, ⟨mCn_10.1, mCn_10.2.1, mDs_8⟩, by decide, mCn_10.2.2, ⟨mW_in (p := 1231) rfl rfl, mPriv_in (i := 65) (q := (_, _)) rfl⟩, rfl⟩
theorem mCc_195 : (kX10_lay.all (fun bk => mChkB 10 false cX10_lay (mBp kX10_lay) bk.1 bk.2) && decide (mBp kX10_lay 0 = 0)) = true := by decide +kernel
theorem mCh_195 : mChkM 195 = true := mCc_195
theorem mMk_196 : mMok 196 (mNa 196) := ⟨mW_in (p := 1653) rfl rfl, mW_in (p := 17) rfl rfl, ⟨mCn_10.1, mCn_10.2.1, mDs_0⟩, by decide, mCn_10.2.2, ⟨mW_in (p := 1652) rfl rfl, mPriv_in (i := 106) (q := (_, _)) rfl⟩, rfl⟩
theorem mCc_196 : (kX10_own.all (fun bk => mChkB 10 false cX10_own (mBp kX10_own) bk.1 bk.2) && decide (mBp kX10_own 0 = 0)) = true := by decide +kernel
theorem mCh_196 : mChkM 196 = true := mCc_196
theorem mMk_197 : mMok 197 (mNa 197) := ⟨mW_in (p := 1243) rfl rfl, mW_in (p := 17) rfl rfl, ⟨mCn_10.1, mCn_10.2.1, mDs_5⟩, by decide, mCn_10.2.2, ⟨mW_in (p := 1242) rfl rfl, mPriv_in (i := 67) (q := (_, _)) rfl⟩, rfl⟩
theorem mCc_197 : (kX10_schedule.all (fun bk => mChkB 10 false cX10_schedule (mBp kX10_schedule) bk.1 bk.2) && decide (mBp kX10_schedule 0 = 0)) = true := by decide +kernel
theorem mCh_197 : mChkM 197 = true := mCc_197
theorem mMk_198 : mMok 198 (mNa 198) := ⟨mW_in (p := 1617) rfl rfl, mW_in (p := 17) rfl rfl, ⟨mCn_10.1, mCn_10.2.1, mDs_5⟩, by decide, mCn_10.2.2, ⟨mW_in (p := 1616) rfl rfl, mPriv_in (i := 97) (q := (_, _)) rfl⟩, rfl⟩
theorem mCc_198 : (kX10_take.all (fun bk => mChkB 10 false cX10_take (mBp kX10_take) bk.1 bk.2) && decide (mBp kX10_take 0 = 0)) = true := by decide +kernel
theorem mCh_198 : mChkM 198 = true := mCc_198
theorem mMk_199 : mMok 199 (mNa 199) := ⟨mW_in (p := 1625) rfl rfl, mW_in (p := 17) rfl rfl, ⟨mCn_10.1, mCn_10.2.1, mDs_1⟩, by decide, mCn_10.2.2, ⟨mW_in (p := 1624) rfl rfl, mPriv_in (i := 99) (q := (_, _)) rfl⟩, rfl⟩
theorem mCc_199 : (kX10_clears.all (fun bk => mChkB 10 false cX10_clears (mBp kX10_clears) bk.1 bk.2) && decide (mBp kX10_clears 0 = 0)) = true := by decide +kernel
theorem mCh_199 : mChkM 199 = true := mCc_199
theorem mMk_200 : mMok 200 (mNa 200) := ⟨mW_in (p := 1613) rfl rfl, mW_in (p := 17) rfl rfl, ⟨mCn_10.1, mCn_10.2.1, mDs_1⟩, by decide, mCn_10.2.2, ⟨mW_in (p := 1612) rfl rfl, mPriv_in (i := 96) (q := (_, _)) rfl⟩, rfl⟩
theorem mCc_200 : (kX10_rests.all (fun bk => mChkB 10 false cX10_rests (mBp kX10_rests) bk.1 bk.2) && decide (mBp kX10_rests 0 = 0)) = true := by decide +kernel
theorem mCh_200 : mChkM 200 = true := mCc_200
theorem mMk_201 : mMok 201 (mNa 201) := ⟨mW_in (p := 1629) rfl rfl, mW_in (p := 17) rfl rfl, ⟨mCn_10.1, mCn_10.2.1, mDs_1⟩, by decide, mCn_10.2.2, ⟨mW_in (p := 1628) rfl rfl, mPriv_in (i := 100) (q := (_, _)) rfl⟩, rfl⟩
theorem mCc_201 : (kX10_resumes.all (fun bk => mChkB 10 false cX10_resumes (mBp kX10_resumes) bk.1 bk.2) && decide (mBp kX10_resumes 0 = 0)) = true := by decide +kernel
theorem mCh_201 : mChkM 201 = true := mCc_201
theorem mMk_202 : mMok 202 (mNa 202) := ⟨mW_in (p := 1609) rfl rfl, mW_in (p := 17) rfl rfl, ⟨mCn_10.1, mCn_10.2.1, mDs_5⟩, by decide, mCn_10.2.2, ⟨mW_in (p := 1608) rfl rfl, mPriv_in (i := 95) (q := (_, _)) rfl⟩, rfl⟩
theorem mCc_202 : (kX10_turn.all (fun bk => mChkB 10 false cX10_turn (mBp kX10_turn) bk.1 bk.2) && decide (mBp kX10_turn 0 = 0)) = true := by decide +kernel
theorem mCh_202 : mChkM 202 = true := mCc_202
theorem mMk_203 : mMok 203 (mNa 203) := ⟨mW_in (p := 1737) rfl rfl, mW_in (p := 17) rfl rfl, ⟨mCn_10.1, mCn_10.2.1, mDs_1⟩, by decide, mCn_10.2.2, ⟨mW_in (p := 1736) rfl rfl, mPriv_in (i := 127) (q := (_, _)) rfl⟩, rfl⟩
theorem mCc_203 : (kX10_comeInTime.all (fun bk => mChkB 10 false cX10_comeInTime (mBp kX10_comeInTime) bk.1 bk.2) && decide (mBp kX10_comeInTime 0 = 0)) = true := by decide +kernel
theorem mCh_203 : mChkM 203 = true := mCc_203
theorem mMk_204 : mMok 204 (mNa 204) := ⟨mW_in (p := 1697) rfl rfl, mW_in (p := 17) rfl rfl, ⟨mCn_10.1, mCn_10.2.1, mDs_5⟩, by decide, mCn_10.2.2, ⟨mW_in (p := 1696) rfl rfl, mPriv_in (i := 117) (q := (_, _)) rfl⟩, rfl⟩
theorem mCc_204 : (kX10_leaves.all (fun bk => mChkB 10 false cX10_leaves (mBp kX10_leaves) bk.1 bk.2) && decide (mBp kX10_leaves 0 = 0)) = true := by decide +kernel
theorem mCh_204 : mChkM 204 = true := mCc_204
theorem mMk_205 : mMok 205 (mNa 205) := ⟨mW_in (p := 1677) rfl rfl, mW_in (p := 17) rfl rfl, ⟨mCn_10.1, mCn_10.2.1, mDs_11⟩, by decide, mCn_10.2.2, ⟨mW_in (p := 1676) rfl rfl, mPriv_in (i := 112) (q := (_, _)) rfl⟩, rfl⟩
theorem mCc_205 : (kX10_waitsTill.all (fun bk => mChkB 10 false cX10_waitsTill (mBp kX10_waitsTill) bk.1 bk.2) && decide (mBp kX10_waitsTill 0 = 0)) = true := by decide +kernel
theorem mCh_205 : mChkM 205 = true := mCc_205
theorem mMk_206 : mMok 206 (mNa 206) := ⟨mW_in (p := 1693) rfl rfl, mW_in (p := 17) rfl rfl, ⟨mCn_10.1, mCn_10.2.1, mDs_5⟩, by decide, mCn_10.2.2, ⟨mW_in (p := 1692) rfl rfl, mPriv_in (i := 116) (q := (_, _)) rfl⟩, rfl⟩
theorem mCc_206 : (kX10_wakes.all (fun bk => mChkB 10 false cX10_wakes (mBp kX10_wakes) bk.1 bk.2) && decide (mBp kX10_wakes 0 = 0)) = true := by decide +kernel
theorem mCh_206 : mChkM 206 = true := mCc_206
theorem mMk_207 : mMok 207 (mNa 207) := ⟨mW_in (p := 1705) rfl rfl, mW_in (p := 17) rfl rfl, ⟨mCn_10.1, mCn_10.2.1, mDs_17⟩, by decide, mCn_10.2.2, ⟨mW_in (p := 1704) rfl rfl, mPriv_in (i := 119) (q := (_, _)) rfl⟩, rfl⟩
theorem mCc_207 : (kX10_meets.all (fun bk => mChkB 10 false cX10_meets (mBp kX10_meets) bk.1 bk.2) && decide (mBp kX10_meets 0 = 0)) = true := by decide +kernel
theorem mCh_207 : mChkM 207 = true := mCc_207
theorem mMk_208 : mMok 208 (mNa 208) := ⟨mW_in (p := 1641) rfl rfl, mW_in (p := 17) rfl rfl, ⟨mCn_10.1, mCn_10.2.1, mDs_5⟩, by decide, mCn_10.2.2, ⟨mW_in (p := 1640) rfl rfl, mPriv_in (i := 103) (q := (_, _)) rfl⟩, rfl⟩
theorem mCc_208 : (kX10_push.all (fun bk => mChkB 10 false cX10_push (mBp kX10_push) bk.1 bk.2) && decide (mBp kX10_push 0 = 0)) = true := by decide +kernel
theorem mCh_208 : mChkM 208 = true := mCc_208
theorem mMk_209 : mMok 209 (mNa 209) := ⟨mW_in (p := 1645) rfl rfl, mW_in (p := 17) rfl rfl, ⟨mCn_10.1, mCn_10.2.1, mDs_1⟩, by decide, mCn_10.2.2, ⟨mW_in (p := 1644) rfl rfl, mPriv_in (i := 104) (q := (_, _)) rfl⟩, rfl⟩
theorem mCc_209 : (kX10_pop.all (fun bk => mChkB 10 false cX10_pop (mBp kX10_pop) bk.1 bk.2) && decide (mBp kX10_pop 0 = 0)) = true := by decide +kernel
theorem mCh_209 : mChkM 209 = true := mCc_209
theorem mMk_210 : mMok 210 (mNa 210) := ⟨mW_in (p := 1649) rfl rfl, mW_in (p := 17) rfl rfl, ⟨mCn_10.1, mCn_10.2.1, mDs_1⟩, by decide, mCn_10.2.2, ⟨mW_in (p := 1648) rfl rfl, mPriv_in (i := 105) (q := (_, _)) rfl⟩, rfl⟩
theorem mCc_210 : (kX10_off.all (fun bk => mChkB 10 false cX10_off (mBp kX10_off) bk.1 bk.2) && decide (mBp kX10_off 0 = 0)) = true := by decide +kernel
theorem mCh_210 : mChkM 210 = true := mCc_210
theorem mMk_211 : mMok 211 (mNa 211) := ⟨mW_in (p := 1661) rfl rfl, mW_in (p := 17) rfl rfl, ⟨mCn_10.1, mCn_10.2.1, mDs_5⟩, by decide, mCn_10.2.2, ⟨mW_in (p := 1660) rfl rfl, mPriv_in (i := 108) (q := (_, _)) rfl⟩, rfl⟩
theorem mCc_211 : (kX10_joined.all (fun bk => mChkB 10 false cX10_joined (mBp kX10_joined) bk.1 bk.2) && decide (mBp kX10_joined 0 = 0)) = true := by decide +kernel
theorem mCh_211 : mChkM 211 = true := mCc_211
theorem mMk_212 : mMok 212 (mNa 212) := ⟨mW_in (p := 1633) rfl rfl, mW_in (p := 17) rfl rfl, ⟨mCn_10.1, mCn_10.2.1, mDs_5⟩, by decide, mCn_10.2.2, ⟨mW_in (p := 1632) rfl rfl, mPriv_in (i := 101) (q := (_, _)) rfl⟩, rfl⟩
theorem mCc_212 : (kX10_does.all (fun bk => mChkB 10 false cX10_does (mBp kX10_does) bk.1 bk.2) && decide (mBp kX10_does 0 = 0)) = true := by decide +kernel
theorem mCh_212 : mChkM 212 = true := mCc_212
theorem mMk_213 : mMok 213 (mNa 213) := ⟨mW_in (p := 1637) rfl rfl, mW_in (p := 17) rfl rfl, ⟨mCn_10.1, mCn_10.2.1, mDs_8⟩, by decide, mCn_10.2.2, ⟨mW_in (p := 1636) rfl rfl, mPriv_in (i := 102) (q := (_, _)) rfl⟩, rfl⟩
theorem mCc_213 : (kX10_doesNamed.all (fun bk => mChkB 10 false cX10_doesNamed (mBp kX10_doesNamed) bk.1 bk.2) && decide (mBp kX10_doesNamed 0 = 0)) = true := by decide +kernel
theorem mCh_213 : mChkM 213 = true := mCc_213
theorem mMk_214 : mMok 214 (mNa 214) := ⟨mW_in (p := 1657) rfl rfl, mW_in (p := 17) rfl rfl, ⟨mCn_10.1, mCn_10.2.1, mDs_5⟩, by decide, mCn_10.2.2, ⟨mW_in (p := 1656) rfl rfl, mPriv_in (i := 107) (q := (_, _)) rfl⟩, rfl⟩
theorem mCc_214 : (kX10_doesPlain.all (fun bk => mChkB 10 false cX10_doesPlain (mBp kX10_doesPlain) bk.1 bk.2) && decide (mBp kX10_doesPlain 0 = 0)) = true := by decide +kernel
theorem mCh_214 : mChkM 214 = true := mCc_214
theorem mMk_215 : mMok 215 (mNa 215) := ⟨mW_in (p := 1665) rfl rfl, mW_in (p := 17) rfl rfl, ⟨mCn_10.1, mCn_10.2.1, mDs_8⟩, by decide, mCn_10.2.2, ⟨mW_in (p := 1664) rfl rfl, mPriv_in (i := 109) (q := (_, _)) rfl⟩, rfl⟩
theorem mCc_215 : (kX10_begins_.all (fun bk => mChkB 10 false cX10_begins_ (mBp kX10_begins_) bk.1 bk.2) && decide (mBp kX10_begins_ 0 = 0)) = true := by decide +kernel
theorem mCh_215 : mChkM 215 = true := mCc_215
theorem mMk_216 : mMok 216 (mNa 216) := ⟨mW_in (p := 1669) rfl rfl, mW_in (p := 17) rfl rfl, ⟨mCn_10.1, mCn_10.2.1, mDs_5⟩, by decide, mCn_10.2.2, ⟨mW_in (p := 1668) rfl rfl, mPriv_in (i := 110) (q := (_, _)) rfl⟩, rfl⟩
theorem mCc_216 : (kX10_ends.all (fun bk => mChkB 10 false cX10_ends (mBp kX10_ends) bk.1 bk.2) && decide (mBp kX10_ends 0 = 0)) = true := by decide +kernel
theorem mCh_216 : mChkM 216 = true := mCc_216
theorem mMk_217 : mMok 217 (mNa 217) := ⟨mW_in (p := 1673) rfl rfl, mW_in (p := 17) rfl rfl, ⟨mCn_10.1, mCn_10.2.1, mDs_5⟩, by decide, mCn_10.2.2, ⟨mW_in (p := 1672) rfl rfl, mPriv_in (i := 111) (q := (_, _)) rfl⟩, rfl⟩
theorem mCc_217 : (kX10_waitsTill_.all (fun bk => mChkB 10 false cX10_waitsTill_ (mBp kX10_waitsTill_) bk.1 bk.2) && decide (mBp kX10_waitsTill_ 0 = 0)) = true := by decide +kernel
theorem mCh_217 : mChkM 217 = true := mCc_217
theorem mMk_218 : mMok 218 (mNa 218) := ⟨mW_in (p := 1681) rfl rfl, mW_in (p := 17) rfl rfl, ⟨mCn_10.1, mCn_10.2.1, mDs_22⟩, by decide, mCn_10.2.2, ⟨mW_in (p := 1680) rfl rfl, mPriv_in (i := 113) (q := (_, _)) rfl⟩, rfl⟩
theorem mCc_218 : (kX10_passesWords.all (fun bk => mChkB 10 false cX10_passesWords (mBp kX10_passesWords) bk.1 bk.2) && decide (mBp kX10_passesWords 0 = 0)) = true := by decide +kernel
theorem mCh_218 : mChkM 218 = true := mCc_218
theorem mMk_219 : mMok 219 (mNa 219) := ⟨mW_in (p := 1689) rfl rfl, mW_in (p := 17) rfl rfl, ⟨mCn_10.1, mCn_10.2.1, mDs_8⟩, by decide, mCn_10.2.2, ⟨mW_in (p := 1688) rfl rfl, mPriv_in (i := 115) (q := (_, _)) rfl⟩, rfl⟩
theorem mCc_219 : (kX10_waitsAt.all (fun bk => mChkB 10 false cX10_waitsAt (mBp kX10_waitsAt) bk.1 bk.2) && decide (mBp kX10_waitsAt 0 = 0)) = true := by decide +kernel
theorem mCh_219 : mChkM 219 = true := mCc_219
theorem mMk_220 : mMok 220 (mNa 220) := ⟨mW_in (p := 1701) rfl rfl, mW_in (p := 17) rfl rfl, ⟨mCn_10.1, mCn_10.2.1, mDs_18⟩, by decide, mCn_10.2.2, ⟨mW_in (p := 1700) rfl rfl, mPriv_in (i := 118) (q := (_, _)) rfl⟩, rfl⟩
theorem mCc_220 : (kX10_copies.all (fun bk => mChkB 10 false cX10_copies (mBp kX10_copies) bk.1 bk.2) && decide (mBp kX10_copies 0 = 0)) = true := by decide +kernel
theorem mCh_220 : mChkM 220 = true := mCc_220
theorem mMk_221 : mMok 221 (mNa 221) := ⟨mW_in (p := 1685) rfl rfl, mW_in (p := 17) rfl rfl, ⟨mCn_10.1, mCn_10.2.1, mDs_19⟩, by decide, mCn_10.2.2, ⟨mW_in (p := 1684) rfl rfl, mPriv_in (i := 114) (q := (_, _)) rfl⟩, rfl⟩
theorem mCc_221 : (kX10_passesLink.all (fun bk => mChkB 10 false cX10_passesLink (mBp kX10_passesLink) bk.1 bk.2) && decide (mBp kX10_passesLink 0 = 0)) = true := by decide +kernel
theorem mCh_221 : mChkM 221 = true := mCc_221
theorem mMk_222 : mMok 222 (mNa 222) := ⟨mW_in (p := 1709) rfl rfl, mW_in (p := 17) rfl rfl, ⟨mCn_10.1, mCn_10.2.1, mDs_5⟩, by decide, mCn_10.2.2, ⟨mW_in (p := 1708) rfl rfl, mPriv_in (i := 120) (q := (_, _)) rfl⟩, rfl⟩
theorem mCc_222 : (kX10_doesAlt.all (fun bk => mChkB 10 false cX10_doesAlt (mBp kX10_doesAlt) bk.1 bk.2) && decide (mBp kX10_doesAlt 0 = 0)) = true := by decide +kernel
theorem mCh_222 : mChkM 222 = true := mCc_222
theorem mMk_223 : mMok 223 (mNa 223) := ⟨mW_in (p := 1713) rfl rfl, mW_in (p := 17) rfl rfl, ⟨mCn_10.1, mCn_10.2.1, mDs_1⟩, by decide, mCn_10.2.2, ⟨mW_in (p := 1712) rfl rfl, mPriv_in (i := 121) (q := (_, _)) rfl⟩, rfl⟩
theorem mCc_223 : (kX10_waitsForOne.all (fun bk => mChkB 10 false cX10_waitsForOne (mBp kX10_waitsForOne) bk.1 bk.2) && decide (mBp kX10_waitsForOne 0 = 0)) = true := by decide +kernel
theorem mCh_223 : mChkM 223 = true := mCc_223
theorem mMk_224 : mMok 224 (mNa 224) := ⟨mW_in (p := 1729) rfl rfl, mW_in (p := 17) rfl rfl, ⟨mCn_10.1, mCn_10.2.1, mDs_1⟩, by decide, mCn_10.2.2, ⟨mW_in (p := 1728) rfl rfl, mPriv_in (i := 125) (q := (_, _)) rfl⟩, rfl⟩
theorem mCc_224 : (kX10_waitsForOneInTime.all (fun bk => mChkB 10 false cX10_waitsForOneInTime (mBp kX10_waitsForOneInTime) bk.1 bk.2) && decide (mBp kX10_waitsForOneInTime 0 = 0)) = true := by decide +kernel
theorem mCh_224 : mChkM 224 = true := mCc_224
theorem mMk_225 : mMok 225 (mNa 225) := ⟨mW_in (p := 1717) rfl rfl, mW_in (p := 17) rfl rfl, ⟨mCn_10.1, mCn_10.2.1, mDs_5⟩, by decide, mCn_10.2.2, ⟨mW_in (p := 1716) rfl rfl, mPriv_in (i := 122) (q := (_, _)) rfl⟩, rfl⟩
theorem mCc_225 : (kX10_enables.all (fun bk => mChkB 10 false cX10_enables (mBp kX10_enables) bk.1 bk.2) && decide (mBp kX10_enables 0 = 0)) = true := by decide +kernel
theorem mCh_225 : mChkM 225 = true := mCc_225
theorem mMk_226 : mMok 226 (mNa 226) := ⟨mW_in (p := 1721) rfl rfl, mW_in (p := 17) rfl rfl, ⟨mCn_10.1, mCn_10.2.1, mDs_6⟩, by decide, mCn_10.2.2, ⟨mW_in (p := 1720) rfl rfl, mPriv_in (i := 123) (q := (_, _)) rfl⟩, rfl⟩
theorem mCc_226 : (kX10_disables.all (fun bk => mChkB 10 false cX10_disables (mBp kX10_disables) bk.1 bk.2) && decide (mBp kX10_disables 0 = 0)) = true := by decide +kernel
theorem mCh_226 : mChkM 226 = true := mCc_226
theorem mMk_227 : mMok 227 (mNa 227) := ⟨mW_in (p := 1733) rfl rfl, mW_in (p := 17) rfl rfl, ⟨mCn_10.1, mCn_10.2.1, mDs_5⟩, by decide, mCn_10.2.2, ⟨mW_in (p := 1732) rfl rfl, mPriv_in (i := 126) (q := (_, _)) rfl⟩, rfl⟩
theorem mCc_227 : (kX10_enablesTime.all (fun bk => mChkB 10 false cX10_enablesTime (mBp kX10_enablesTime) bk.1 bk.2) && decide (mBp kX10_enablesTime 0 = 0)) = true := by decide +kernel
theorem mCh_227 : mChkM 227 = true := mCc_227
theorem mMk_228 : mMok 228 (mNa 228) := ⟨mW_in (p := 1725) rfl rfl, mW_in (p := 17) rfl rfl, ⟨mCn_10.1, mCn_10.2.1, mDs_37⟩, by decide, mCn_10.2.2, ⟨mW_in (p := 1724) rfl rfl, mPriv_in (i := 124) (q := (_, _)) rfl⟩, rfl⟩
theorem mCc_228 : (kX10_fires.all (fun bk => mChkB 10 false cX10_fires (mBp kX10_fires) bk.1 bk.2) && decide (mBp kX10_fires 0 = 0)) = true := by decide +kernel
theorem mCh_228 : mChkM 228 = true := mCc_228
theorem mMk_229 : mMok 229 (mNa 229) := ⟨mW_in (p := 1745) rfl rfl, mW_in (p := 17) rfl rfl, ⟨mCn_10.1, mCn_10.2.1, mDs_6⟩, by decide, mCn_10.2.2, ⟨mW_in (p := 1744) rfl rfl, mPriv_in (i := 129) (q := (_, _)) rfl⟩, rfl⟩
theorem mCc_229 : (kX10_isDead.all (fun bk => mChkB 10 false cX10_isDead (mBp kX10_isDead) bk.1 bk.2) && decide (mBp kX10_isDead 0 = 0)) = true := by decide +kernel
theorem mCh_229 : mChkM 229 = true := mCc_229
theorem mMk_230 : mMok 230 (mNa 230) := ⟨mW_in (p := 1749) rfl rfl, mW_in (p := 17) rfl rfl, ⟨mCn_10.1, mCn_10.2.1, mDs_4⟩, by decide, mCn_10.2.2, ⟨mW_in (p := 1748) rfl rfl, mPriv_in (i := 130) (q := (_, _)) rfl⟩, rfl⟩
theorem mCc_230 : (kX10_linkOf.all (fun bk => mChkB 10 false cX10_linkOf (mBp kX10_linkOf) bk.1 bk.2) && decide (mBp kX10_linkOf 0 = 0)) = true := by decide +kernel
theorem mCh_230 : mChkM 230 = true := mCc_230
theorem mMk_231 : mMok 231 (mNa 231) := ⟨mW_in (p := 1753) rfl rfl, mW_in (p := 17) rfl rfl, ⟨mCn_10.1, mCn_10.2.1, mDs_9⟩, by decide, mCn_10.2.2, ⟨mW_in (p := 1752) rfl rfl, mPriv_in (i := 131) (q := (_, _)) rfl⟩, rfl⟩
theorem mCc_231 : (kX10_canSend.all (fun bk => mChkB 10 false cX10_canSend (mBp kX10_canSend) bk.1 bk.2) && decide (mBp kX10_canSend 0 = 0)) = true := by decide +kernel
theorem mCh_231 : mChkM 231 = true := mCc_231
theorem mMk_232 : mMok 232 (mNa 232) := ⟨mW_in (p := 1741) rfl rfl, mW_in (p := 17) rfl rfl, ⟨mCn_10.1, mCn_10.2.1, mDs_5⟩, by decide, mCn_10.2.2, ⟨mW_in (p := 1740) rfl rfl, mPriv_in (i := 128) (q := (_, _)) rfl⟩, rfl⟩
theorem mCc_232 : (kX10_goes.all (fun bk => mChkB 10 false cX10_goes (mBp kX10_goes) bk.1 bk.2) && decide (mBp kX10_goes 0 = 0)) = true := by decide +kernel
theorem mCh_232 : mChkM 232 = true := mCc_232
theorem mMk_233 : mMok 233 (mNa 233) := ⟨mW_in (p := 1757) rfl rfl, mW_in (p := 17) rfl rfl, ⟨mCn_10.1, mCn_10.2.1, mDs_11⟩, by decide, mCn_10.2.2, ⟨mW_in (p := 1756) rfl rfl, mPriv_in (i := 132) (q := (_, _)) rfl⟩, rfl⟩
theorem mCc_233 : (kX10_comesIn.all (fun bk => mChkB 10 false cX10_comesIn (mBp kX10_comesIn) bk.1 bk.2) && decide (mBp kX10_comesIn 0 = 0)) = true := by decide +kernel
theorem mCh_233 : mChkM 233 = true := mCc_233
theorem mMk_234 : mMok 234 (mNa 234) := ⟨mW_in (p := 1761) rfl rfl, mW_in (p := 17) rfl rfl, ⟨mCn_10.1, mCn_10.2.1, mDs_11⟩, by decide, mCn_10.2.2, ⟨mW_in (p := 1760) rfl rfl, mPriv_in (i := 133) (q := (_, _)) rfl⟩, rfl⟩
theorem mCc_234 : (kX10_comesOut.all (fun bk => mChkB 10 false cX10_comesOut (mBp kX10_comesOut) bk.1 bk.2) && decide (mBp kX10_comesOut 0 = 0)) = true := by decide +kernel
theorem mCh_234 : mChkM 234 = true := mCc_234
theorem mMk_235 : mMok 235 (mNa 235) := ⟨mW_in (p := 1605) rfl rfl, mW_in (p := 17) rfl rfl, ⟨mCn_10.1, mCn_10.2.1, mDs_1⟩, by decide, mCn_10.2.2, ⟨mW_in (p := 1604) rfl rfl, mPriv_in (i := 94) (q := (_, _)) rfl⟩, rfl⟩
theorem mCc_235 : (kX10_passes.all (fun bk => mChkB 10 false cX10_passes (mBp kX10_passes) bk.1 bk.2) && decide (mBp kX10_passes 0 = 0)) = true := by decide +kernel
theorem mCh_235 : mChkM 235 = true := mCc_235
theorem mMk_236 : mMok 236 (mNa 236) := ⟨mW_in (p := 1542) rfl rfl, mW_in (p := 17) rfl rfl, ⟨mCn_10.1, mCn_10.2.1, mDs_7⟩, by decide, mCn_10.2.2, ⟨mW_in (p := 1540) rfl rfl, mW_in (p := 1541) rfl rfl⟩, rfl⟩
theorem mCc_236 : (kX10_code.all (fun bk => mChkB 10 false cX10_code (mBp kX10_code) bk.1 bk.2) && decide (mBp kX10_code 0 = 0)) = true := by decide +kernel
theorem mCh_236 : mChkM 236 = true := mCc_236
theorem mMk_237 : mMok 237 (mNa 237) := ⟨mW_in (p := 1546) rfl rfl, mW_in (p := 17) rfl rfl, ⟨mCn_10.1, mCn_10.2.1, mDs_4⟩, by decide, mCn_10.2.2, ⟨mW_in (p := 1544) rfl rfl, mW_in (p := 1545) rfl rfl⟩, rfl⟩
theorem mCc_237 : (kX10_label.all (fun bk => mChkB 10 false cX10_label (mBp kX10_label) bk.1 bk.2) && decide (mBp kX10_label 0 = 0)) = true := by decide +kernel
theorem mCh_237 : mChkM 237 = true := mCc_237
theorem mMk_238 : mMok 238 (mNa 238) := ⟨mW_in (p := 1558) rfl rfl, mW_in (p := 17) rfl rfl, ⟨mCn_10.1, mCn_10.2.1, mDs_5⟩, by decide, mCn_10.2.2, ⟨mW_in (p := 1557) rfl rfl, mPriv_in (i := 89) (q := (_, _)) rfl⟩, rfl⟩
theorem mCc_238 : (kX10_comesTo.all (fun bk => mChkB 10 false cX10_comesTo (mBp kX10_comesTo) bk.1 bk.2) && decide (mBp kX10_comesTo 0 = 0)) = true := by decide +kernel
theorem mCh_238 : mChkM 238 = true := mCc_238
theorem mMk_239 : mMok 239 (mNa 239) := ⟨mW_in (p := 1562) rfl rfl, mW_in (p := 17) rfl rfl, ⟨mCn_10.1, mCn_10.2.1, mDs_37⟩, by decide, mCn_10.2.2, ⟨mW_in (p := 1561) rfl rfl, mPriv_in (i := 90) (q := (_, _)) rfl⟩, rfl⟩
theorem mCc_239 : (kX10_spreads.all (fun bk => mChkB 10 false cX10_spreads (mBp kX10_spreads) bk.1 bk.2) && decide (mBp kX10_spreads 0 = 0)) = true := by decide +kernel
theorem mCh_239 : mChkM 239 = true := mCc_239
theorem mMk_240 : mMok 240 (mNa 240) := ⟨mW_in (p := 1566) rfl rfl, mW_in (p := 17) rfl rfl, ⟨mCn_10.1, mCn_10.2.1, mDs_22⟩, by decide, mCn_10.2.2, ⟨mW_in (p := 1565) rfl rfl, mPriv_in (i := 91) (q := (_, _)) rfl⟩, rfl⟩
theorem mCc_240 : (kX10_leaves_.all (fun bk => mChkB 10 false cX10_leaves_ (mBp kX10_leaves_) bk.1 bk.2) && decide (mBp kX10_leaves_ 0 = 0)) = true := by decide +kernel
theorem mCh_240 : mChkM 240 = true := mCc_240
theorem mMk_241 : mMok 241 (mNa 241) := ⟨mW_in (p := 1554) rfl rfl, mW_in (p := 17) rfl rfl, ⟨mCn_10.1, mCn_10.2.1, mDs_1⟩, by decide, mCn_10.2.2, ⟨mW_in (p := 1553) rfl rfl, mPriv_in (i := 88) (q := (_, _)) rfl⟩, rfl⟩
theorem mCc_241 : (kX10_comesNowhere.all (fun bk => mChkB 10 false cX10_comesNowhere (mBp kX10_comesNowhere) bk.1 bk.2) && decide (mBp kX10_comesNowhere 0 = 0)) = true := by decide +kernel
theorem mCh_241 : mChkM 241 = true := mCc_241
theorem mMk_242 : mMok 242 (mNa 242) := ⟨mW_in (p := 1570) rfl rfl, mW_in (p := 17) rfl rfl, ⟨mCn_10.1, mCn_10.2.1, mDs_43⟩, by decide, mCn_10.2.2, ⟨mW_in (p := 1569) rfl rfl, mPriv_in (i := 92) (q := (_, _)) rfl⟩, rfl⟩
theorem mCc_242 : (kX10_kth.all (fun bk => mChkB 10 false cX10_kth (mBp kX10_kth) bk.1 bk.2) && decide (mBp kX10_kth 0 = 0)) = true := by decide +kernel
theorem mCh_242 : mChkM 242 = true := mCc_242
theorem mMk_243 : mMok 243 (mNa 243) := ⟨mW_in (p := 1550) rfl rfl, mW_in (p := 17) rfl rfl, ⟨mCn_10.1, mCn_10.2.1, mDs_7⟩, by decide, mCn_10.2.2, ⟨mW_in (p := 1548) rfl rfl, mW_in (p := 1549) rfl rfl⟩, rfl⟩
theorem mCc_243 : (kX10_reach.all (fun bk => mChkB 10 false cX10_reach (mBp kX10_reach) bk.1 bk.2) && decide (mBp kX10_reach 0 = 0)) = true := by decide +kernel
theorem mCh_243 : mChkM 243 = true := mCc_243
theorem mMk_244 : mMok 244 (mNa 244) := ⟨mW_in (p := 1574) rfl rfl, mW_in (p := 17) rfl rfl, ⟨mCn_10.1, mCn_10.2.1, mDs_4⟩, by decide, mCn_10.2.2, ⟨mW_in (p := 1572) rfl rfl, mW_in (p := 1573) rfl rfl⟩, rfl⟩
theorem mCc_244 : (kX10_hog.all (fun bk => mChkB 10 false cX10_hog (mBp kX10_hog) bk.1 bk.2) && decide (mBp kX10_hog 0 = 0)) = true := by decide +kernel
theorem mCh_244 : mChkM 244 = true := mCc_244
theorem mMk_245 : mMok 245 (mNa 245) := ⟨mW_in (p := 1586) rfl rfl, mW_in (p := 17) rfl rfl, ⟨mCn_10.1, mCn_10.2.1, mDs_1⟩, by decide, mCn_10.2.2, ⟨mW_in (p := 1585) rfl rfl, mPriv_in (i := 93) (q := (_, _)) rfl⟩, rfl⟩
theorem mCc_245 : (kX10_keepsAct.all (fun bk => mChkB 10 false cX10_keepsAct (mBp kX10_keepsAct) bk.1 bk.2) && decide (mBp kX10_keepsAct 0 = 0)) = true := by decide +kernel
theorem mCh_245 : mChkM 245 = true := mCc_245
theorem mMk_246 : mMok 246 (mNa 246) := ⟨mW_in (p := 1578) rfl rfl, mW_in (p := 17) rfl rfl, ⟨mCn_10.1, mCn_10.2.1, mDs_0⟩, by decide, mCn_10.2.2, ⟨mW_in (p := 1576) rfl rfl, mW_in (p := 1577) rfl rfl⟩, rfl⟩
theorem mCc_246 : (kX10_undo.all (fun bk => mChkB 10 false cX10_undo (mBp kX10_undo) bk.1 bk.2) && decide (mBp kX10_undo 0 = 0)) = true := by decide +kernel
theorem mCh_246 : mChkM 246 = true := mCc_246
theorem mMk_247 : mMok 247 (mNa 247) := ⟨mW_in (p := 1582) rfl rfl, mW_in (p := 17) rfl rfl, ⟨mCn_10.1, mCn_10.2.1, mDs_4⟩, by decide, mCn_10.2.2, ⟨mW_in (p := 1580) rfl rfl, mW_in (p := 1581) rfl rfl⟩, rfl⟩
theorem mCc_247 : (kX10_slice.all (fun bk => mChkB 10 false cX10_slice (mBp kX10_slice) bk.1 bk.2) && decide (mBp kX10_slice 0 = 0)) = true := by decide +kernel
theorem mCh_247 : mChkM 247 = true := mCc_247
theorem mMk_248 : mMok 248 (mNa 248) := ⟨mW_in (p := 1593) rfl rfl, mW_in (p := 17) rfl rfl, ⟨mCn_10.1, mCn_10.2.1, mDs_6⟩, by decide, mCn_10.2.2, mW_in (p := 1592) rfl rfl, rfl⟩
theorem mCc_248 : (kX10_isMachine.all (fun bk => mChkB 10 false cX10_isMachine (mBp kX10_isMachine) bk.1 bk.2) && decide (mBp kX10_isMachine 0 = 0)) = true := by decide +kernel
theorem mCh_248 : mChkM 248 = true := mCc_248
theorem mMk_249 : mMok 249 (mNa 249) := ⟨mW_in (p := 1590) rfl rfl, mW_in (p := 17) rfl rfl, ⟨mCn_10.1, mCn_10.2.1, mDs_12⟩, by decide, mCn_10.2.2, ⟨mW_in (p := 1588) rfl rfl, mW_in (p := 1589) rfl rfl⟩, rfl⟩
theorem mCc_249 : (kX10_poke.all (fun bk => mChkB 10 false cX10_poke (mBp kX10_poke) bk.1 bk.2) && decide (mBp kX10_poke 0 = 0)) = true := by decide +kernel
theorem mCh_249 : mChkM 249 = true := mCc_249
theorem mMk_250 : mMok 250 (mNa 250) := ⟨mW_in (p := 1597) rfl rfl, mW_in (p := 17) rfl rfl, ⟨mCn_10.1, mCn_10.2.1, mDs_15⟩, by decide, mCn_10.2.2, ⟨mW_in (p := 1595) rfl rfl, mW_in (p := 1596) rfl rfl⟩, rfl⟩
theorem mCc_250 : (kX10_start.all (fun bk => mChkB 10 false cX10_start (mBp kX10_start) bk.1 bk.2) && decide (mBp kX10_start 0 = 0)) = true := by decide +kernel
theorem mCh_250 : mChkM 250 = true := mCc_250
theorem mMk_251 : mMok 251 (mNa 251) := ⟨mW_in (p := 1601) rfl rfl, mW_in (p := 17) rfl rfl, ⟨mCn_10.1, mCn_10.2.1, mDs_4⟩, by decide, mCn_10.2.2, ⟨mW_in (p := 1599) rfl rfl, mW_in (p := 1600) rfl rfl⟩, rfl⟩
theorem mCc_251 : (kX10_tick.all (fun bk => mChkB 10 false cX10_tick (mBp kX10_tick) bk.1 bk.2) && decide (mBp kX10_tick 0 = 0)) = true := by decide +kernel
theorem mCh_251 : mChkM 251 = true := mCc_251
theorem mMk_252 : mMok 252 (mNa 252) := ⟨mW_in (p := 1765) rfl rfl, mW_in (p := 17) rfl rfl, ⟨mCn_10.1, mCn_10.2.1, mDs_7⟩, by decide, mCn_10.2.2, ⟨mW_in (p := 1763) rfl rfl, mW_in (p := 1764) rfl rfl⟩, rfl⟩
theorem mCc_252 : (kX10_machine.all (fun bk => mChkB 10 false cX10_machine (mBp kX10_machine) bk.1 bk.2) && decide (mBp kX10_machine 0 = 0)) = true := by decide +kernel
theorem mCh_252 : mChkM 252 = true := mCc_252
theorem mMk_253 : mMok 253 (mNa 253) := ⟨mW_in (p := 1769) rfl rfl, mW_in (p := 17) rfl rfl, ⟨mCn_10.1, mCn_10.2.1, mDs_7⟩, by decide, mCn_10.2.2, ⟨mW_in (p := 1767) rfl rfl, mW_in (p := 1768) rfl rfl⟩, rfl⟩
theorem mCc_253 : (kX10_word.all (fun bk => mChkB 10 false cX10_word (mBp kX10_word) bk.1 bk.2) && decide (mBp kX10_word 0 = 0)) = true := by decide +kernel
theorem mCh_253 : mChkM 253 = true := mCc_253
theorem mMk_254 : mMok 254 (mNa 254) := ⟨mW_in (p := 1773) rfl rfl, mW_in (p := 17) rfl rfl, ⟨mCn_10.1, mCn_10.2.1, mDs_10⟩, by decide, mCn_10.2.2, ⟨mW_in (p := 1771) rfl rfl, mW_in (p := 1772) rfl rfl⟩, rfl⟩
theorem mCc_254 : (kX10_queue.all (fun bk => mChkB 10 false cX10_queue (mBp kX10_queue) bk.1 bk.2) && decide (mBp kX10_queue 0 = 0)) = true := by decide +kernel
theorem mCh_254 : mChkM 254 = true := mCc_254
theorem mMk_255 : mMok 255 (mNa 255) := ⟨mW_in (p := 1793) rfl rfl, mW_in (p := 17) rfl rfl, ⟨mCn_10.1, mCn_10.2.1, mDs_10⟩, by decide, mCn_10.2.2, ⟨mW_in (p := 1775) rfl rfl, mW_in (p := 1792) rfl rfl⟩, rfl⟩
theorem mCc_255 : (kX10_timer.all (fun bk => mChkB 10 false cX10_timer (mBp kX10_timer) bk.1 bk.2) && decide (mBp kX10_timer 0 = 0)) = true := by decide +kernel
theorem mCh_255 : mChkM 255 = true := mCc_255
theorem mMk_256 : mMok 256 (mNa 256) := ⟨mW_in (p := 1797) rfl rfl, mW_in (p := 17) rfl rfl, ⟨mCn_10.1, mCn_10.2.1, mDs_10⟩, by decide, mCn_10.2.2, ⟨mW_in (p := 1795) rfl rfl, mW_in (p := 1796) rfl rfl⟩, rfl⟩
theorem mCc_256 : (kX10_link.all (fun bk => mChkB 10 false cX10_link (mBp kX10_link) bk.1 bk.2) && decide (mBp kX10_link 0 = 0)) = true := by decide +kernel
theorem mCh_256 : mChkM 256 = true := mCc_256
theorem mMk_257 : mMok 257 (mNa 257) := ⟨mW_in (p := 1801) rfl rfl, mW_in (p := 17) rfl rfl, ⟨mCn_10.1, mCn_10.2.1, mDs_7⟩, by decide, mCn_10.2.2, ⟨mW_in (p := 1799) rfl rfl, mW_in (p := 1800) rfl rfl⟩, rfl⟩
theorem mCc_257 : (kX10_meeting.all (fun bk => mChkB 10 false cX10_meeting (mBp kX10_meeting) bk.1 bk.2) && decide (mBp kX10_meeting 0 = 0)) = true := by decide +kernel
theorem mCh_257 : mChkM 257 = true := mCc_257
theorem mMk_258 : mMok 258 (mNa 258) := ⟨mW_in (p := 1809) rfl rfl, mW_in (p := 17) rfl rfl, ⟨mCn_10.1, mCn_10.2.1, mDs_2⟩, by decide, mCn_10.2.2, ⟨mW_in (p := 1808) rfl rfl, mPriv_in (i := 134) (q := (_, _)) rfl⟩, rfl⟩
theorem mCc_258 : (kX10_isStuck.all (fun bk => mChkB 10 false cX10_isStuck (mBp kX10_isStuck) bk.1 bk.2) && decide (mBp kX10_isStuck 0 = 0)) = true := by decide +kernel
theorem mCh_258 : mChkM 258 = true := mCc_258
theorem mMk_259 : mMok 259 (mNa 259) := ⟨mW_in (p := 1805) rfl rfl, mW_in (p := 17) rfl rfl, ⟨mCn_10.1, mCn_10.2.1, mDs_2⟩, by decide, mCn_10.2.2, ⟨mW_in (p := 1803) rfl rfl, mW_in (p := 1804) rfl rfl⟩, rfl⟩
theorem mCc_259 : (kX10_stuck.all (fun bk => mChkB 10 false cX10_stuck (mBp kX10_stuck) bk.1 bk.2) && decide (mBp kX10_stuck 0 = 0)) = true := by decide +kernel
theorem mCh_259 : mChkM 259 = true := mCc_259
theorem mMk_260 : mMok 260 (mNa 260) := ⟨mW_in (p := 1817) rfl rfl, mW_in (p := 17) rfl rfl, ⟨mCn_10.1, mCn_10.2.1, mDs_1⟩, by decide, mCn_10.2.2, ⟨mW_in (p := 1816) rfl rfl, mPriv_in (i := 135) (q := (_, _)) rfl⟩, rfl⟩
theorem mCc_260 : (kX10_putsAside.all (fun bk => mChkB 10 false cX10_putsAside (mBp kX10_putsAside) bk.1 bk.2) && decide (mBp kX10_putsAside 0 = 0)) = true := by decide +kernel
theorem mCh_260 : mChkM 260 = true := mCc_260
theorem mMk_261 : mMok 261 (mNa 261) := ⟨mW_in (p := 1825) rfl rfl, mW_in (p := 17) rfl rfl, ⟨mCn_10.1, mCn_10.2.1, mDs_1⟩, by decide, mCn_10.2.2, ⟨mW_in (p := 1824) rfl rfl, mPriv_in (i := 137) (q := (_, _)) rfl⟩, rfl⟩
theorem mCc_261 : (kX10_comesBack.all (fun bk => mChkB 10 false cX10_comesBack (mBp kX10_comesBack) bk.1 bk.2) && decide (mBp kX10_comesBack 0 = 0)) = true := by decide +kernel
theorem mCh_261 : mChkM 261 = true := mCc_261
theorem mMk_262 : mMok 262 (mNa 262) := ⟨mW_in (p := 1821) rfl rfl, mW_in (p := 17) rfl rfl, ⟨mCn_10.1, mCn_10.2.1, mDs_0⟩, by decide, mCn_10.2.2, ⟨mW_in (p := 1820) rfl rfl, mPriv_in (i := 136) (q := (_, _)) rfl⟩, rfl⟩
theorem mCc_262 : (kX10_halted.all (fun bk => mChkB 10 false cX10_halted (mBp kX10_halted) bk.1 bk.2) && decide (mBp kX10_halted 0 = 0)) = true := by decide +kernel
theorem mCh_262 : mChkM 262 = true := mCc_262
theorem mMk_263 : mMok 263 (mNa 263) := ⟨mW_in (p := 1813) rfl rfl, mW_in (p := 17) rfl rfl, ⟨mCn_10.1, mCn_10.2.1, mDs_7⟩, by decide, mCn_10.2.2, ⟨mW_in (p := 1811) rfl rfl, mW_in (p := 1812) rfl rfl⟩, rfl⟩
theorem mCc_263 : (kX10_ahead.all (fun bk => mChkB 10 false cX10_ahead (mBp kX10_ahead) bk.1 bk.2) && decide (mBp kX10_ahead 0 = 0)) = true := by decide +kernel
theorem mCh_263 : mChkM 263 = true := mCc_263
theorem mMk_264 : mMok 264 (mNa 264) := ⟨mW_in (p := 1829) rfl rfl, mW_in (p := 17) rfl rfl, ⟨mCn_10.1, mCn_10.2.1, mDs_10⟩, by decide, mCn_10.2.2, ⟨mW_in (p := 1827) rfl rfl, mW_in (p := 1828) rfl rfl⟩, rfl⟩
theorem mCc_264 : (kX10_share.all (fun bk => mChkB 10 false cX10_share (mBp kX10_share) bk.1 bk.2) && decide (mBp kX10_share 0 = 0)) = true := by decide +kernel
theorem mCh_264 : mChkM 264 = true := mCc_264
theorem mMk_265 : mMok 265 (mNa 265) := ⟨mW_in (p := 1833) rfl rfl, mW_in (p := 17) rfl rfl, ⟨mCn_10.1, mCn_10.2.1, mDs_13⟩, by decide, mCn_10.2.2, ⟨mW_in (p := 1831) rfl rfl, mW_in (p := 1832) rfl rfl⟩, rfl⟩
theorem mCc_265 : (kX10_until.all (fun bk => mChkB 10 false cX10_until (mBp kX10_until) bk.1 bk.2) && decide (mBp kX10_until 0 = 0)) = true := by decide +kernel
theorem mCh_265 : mChkM 265 = true := mCc_265
theorem mMk_266 : mMok 266 (mNa 266) := ⟨mW_in (p := 1837) rfl rfl, mW_in (p := 17) rfl rfl, ⟨mCn_10.1, mCn_10.2.1, mDs_10⟩, by decide, mCn_10.2.2, ⟨mW_in (p := 1835) rfl rfl, mW_in (p := 1836) rfl rfl⟩, rfl⟩
theorem mCc_266 : (kX10_slices.all (fun bk => mChkB 10 false cX10_slices (mBp kX10_slices) bk.1 bk.2) && decide (mBp kX10_slices 0 = 0)) = true := by decide +kernel
theorem mCh_266 : mChkM 266 = true := mCc_266
theorem mMk_267 : mMok 267 (mNa 267) := ⟨mW_in (p := 1841) rfl rfl, mW_in (p := 17) rfl rfl, ⟨mCn_10.1, mCn_10.2.1, mDs_6⟩, by decide, mCn_10.2.2, ⟨mW_in (p := 1839) rfl rfl, mW_in (p := 1840) rfl rfl⟩, rfl⟩
theorem mCc_267 : (kX10_keep.all (fun bk => mChkB 10 false cX10_keep (mBp kX10_keep) bk.1 bk.2) && decide (mBp kX10_keep 0 = 0)) = true := by decide +kernel
theorem mCh_267 : mChkM 267 = true := mCc_267
theorem mMk_268 : mMok 268 (mNa 268) := ⟨mW_in (p := 1845) rfl rfl, mW_in (p := 17) rfl rfl, ⟨mCn_10.1, mCn_10.2.1, mDs_6⟩, by decide, mCn_10.2.2, ⟨mW_in (p := 1843) rfl rfl, mW_in (p := 1844) rfl rfl⟩, rfl⟩
theorem mCc_268 : (kX10_back.all (fun bk => mChkB 10 false cX10_back (mBp kX10_back) bk.1 bk.2) && decide (mBp kX10_back 0 = 0)) = true := by decide +kernel
theorem mCh_268 : mChkM 268 = true := mCc_268
theorem mMk_269 : mMok 269 (mNa 269) := ⟨mW_in (p := 1849) rfl rfl, mW_in (p := 17) rfl rfl, ⟨mCn_10.1, mCn_10.2.1, mDs_4⟩, by decide, mCn_10.2.2, ⟨mW_in (p := 1847) rfl rfl, mW_in (p := 1848) rfl rfl⟩, rfl⟩
theorem mCc_269 : (kX10_count.all (fun bk => mChkB 10 false cX10_count (mBp kX10_count) bk.1 bk.2) && decide (mBp kX10_count 0 = 0)) = true := by decide +kernel
theorem mCh_269 : mChkM 269 = true := mCc_269
theorem mMk_270 : mMok 270 (mNa 270) := ⟨mW_in (p := 49) rfl rfl, mW_in (p := 4) rfl rfl, ⟨mCn_11.1, mCn_11.2.1, mDs_42⟩, by decide, mCn_11.2.2, mW_in (p := 48) rfl rfl, rfl⟩
theorem mCc_270 : (kJ_fill.all (fun bk => mChkB 11 false cJ7_fill_53178 (mBp kJ_fill) bk.1 bk.2) && decide (mBp kJ_fill 0 = 0)) = true := by decide +kernel
theorem mCh_270 : mChkM 270 = true := mCc_270
theorem mAll_0 : ∀ j, 0 ≤ j → j < 16 → mMok j (mNa j) ∧ mChkM j = true := by
  intro j h1 h2
  rcases (show j = 0 ∨ j = 1 ∨ j = 2 ∨ j = 3 ∨ j = 4 ∨ j = 5 ∨ j = 6 ∨ j = 7 ∨ j = 8 ∨ j = 9 ∨ j = 10 ∨ j = 11 ∨ j = 12 ∨ j = 13 ∨ j = 14 ∨ j = 15 by omega) with rfl | rfl | rfl | rfl | rfl | rfl | rfl | rfl | rfl | rfl | rfl | rfl | rfl | rfl | rfl | rfl
  · exact ⟨mMk_0, mCh_0⟩
  · exact ⟨mMk_1, mCh_1⟩
  · exact ⟨mMk_2, mCh_2⟩
  · exact ⟨mMk_3, mCh_3⟩
  · exact ⟨mMk_4, mCh_4⟩
  · exact ⟨mMk_5, mCh_5⟩
  · exact ⟨mMk_6, mCh_6⟩
  · exact ⟨mMk_7, mCh_7⟩
  · exact ⟨mMk_8, mCh_8⟩
  · exact ⟨mMk_9, mCh_9⟩
  · exact ⟨mMk_10, mCh_10⟩
  · exact ⟨mMk_11, mCh_11⟩
  · exact ⟨mMk_12, mCh_12⟩
  · exact ⟨mMk_13, mCh_13⟩
  · exact ⟨mMk_14, mCh_14⟩
  · exact ⟨mMk_15, mCh_15⟩
theorem mAll_1 : ∀ j, 16 ≤ j → j < 32 → mMok j (mNa j) ∧ mChkM j = true := by
  intro j h1 h2
  rcases (show j = 16 ∨ j = 17 ∨ j = 18 ∨ j = 19 ∨ j = 20 ∨ j = 21 ∨ j = 22 ∨ j = 23 ∨ j = 24 ∨ j = 25 ∨ j = 26 ∨ j = 27 ∨ j = 28 ∨ j = 29 ∨ j = 30 ∨ j = 31 by omega) with rfl | rfl | rfl | rfl | rfl | rfl | rfl | rfl | rfl | rfl | rfl | rfl | rfl | rfl | rfl | rfl
  · exact ⟨mMk_16, mCh_16⟩
  · exact ⟨mMk_17, mCh_17⟩
  · exact ⟨mMk_18, mCh_18⟩
  · exact ⟨mMk_19, mCh_19⟩
  · exact ⟨mMk_20, mCh_20⟩
  · exact ⟨mMk_21, mCh_21⟩
  · exact ⟨mMk_22, mCh_22⟩
  · exact ⟨mMk_23, mCh_23⟩
  · exact ⟨mMk_24, mCh_24⟩
  · exact ⟨mMk_25, mCh_25⟩
  · exact ⟨mMk_26, mCh_26⟩
  · exact ⟨mMk_27, mCh_27⟩
  · exact ⟨mMk_28, mCh_28⟩
  · exact ⟨mMk_29, mCh_29⟩
  · exact ⟨mMk_30, mCh_30⟩
  · exact ⟨mMk_31, mCh_31⟩
theorem mAll_2 : ∀ j, 32 ≤ j → j < 48 → mMok j (mNa j) ∧ mChkM j = true := by
  intro j h1 h2
  rcases (show j = 32 ∨ j = 33 ∨ j = 34 ∨ j = 35 ∨ j = 36 ∨ j = 37 ∨ j = 38 ∨ j = 39 ∨ j = 40 ∨ j = 41 ∨ j = 42 ∨ j = 43 ∨ j = 44 ∨ j = 45 ∨ j = 46 ∨ j = 47 by omega) with rfl | rfl | rfl | rfl | rfl | rfl | rfl | rfl | rfl | rfl | rfl | rfl | rfl | rfl | rfl | rfl
  · exact ⟨mMk_32, mCh_32⟩
  · exact ⟨mMk_33, mCh_33⟩
  · exact ⟨mMk_34, mCh_34⟩
  · exact ⟨mMk_35, mCh_35⟩
  · exact ⟨mMk_36, mCh_36⟩
  · exact ⟨mMk_37, mCh_37⟩
  · exact ⟨mMk_38, mCh_38⟩
  · exact ⟨mMk_39, mCh_39⟩
  · exact ⟨mMk_40, mCh_40⟩
  · exact ⟨mMk_41, mCh_41⟩
  · exact ⟨mMk_42, mCh_42⟩
  · exact ⟨mMk_43, mCh_43⟩
  · exact ⟨mMk_44, mCh_44⟩
  · exact ⟨mMk_45, mCh_45⟩
  · exact ⟨mMk_46, mCh_46⟩
  · exact ⟨mMk_47, mCh_47⟩
theorem mAll_3 : ∀ j, 48 ≤ j → j < 64 → mMok j (mNa j) ∧ mChkM j = true := by
  intro j h1 h2
  rcases (show j = 48 ∨ j = 49 ∨ j = 50 ∨ j = 51 ∨ j = 52 ∨ j = 53 ∨ j = 54 ∨ j = 55 ∨ j = 56 ∨ j = 57 ∨ j = 58 ∨ j = 59 ∨ j = 60 ∨ j = 61 ∨ j = 62 ∨ j = 63 by omega) with rfl | rfl | rfl | rfl | rfl | rfl | rfl | rfl | rfl | rfl | rfl | rfl | rfl | rfl | rfl | rfl
  · exact ⟨mMk_48, mCh_48⟩
  · exact ⟨mMk_49, mCh_49⟩
  · exact ⟨mMk_50, mCh_50⟩
  · exact ⟨mMk_51, mCh_51⟩
  · exact ⟨mMk_52, mCh_52⟩
  · exact ⟨mMk_53, mCh_53⟩
  · exact ⟨mMk_54, mCh_54⟩
  · exact ⟨mMk_55, mCh_55⟩
  · exact ⟨mMk_56, mCh_56⟩
  · exact ⟨mMk_57, mCh_57⟩
  · exact ⟨mMk_58, mCh_58⟩
  · exact ⟨mMk_59, mCh_59⟩
  · exact ⟨mMk_60, mCh_60⟩
  · exact ⟨mMk_61, mCh_61⟩
  · exact ⟨mMk_62, mCh_62⟩
  · exact ⟨mMk_63, mCh_63⟩
theorem mAll_4 : ∀ j, 64 ≤ j → j < 80 → mMok j (mNa j) ∧ mChkM j = true := by
  intro j h1 h2
  rcases (show j = 64 ∨ j = 65 ∨ j = 66 ∨ j = 67 ∨ j = 68 ∨ j = 69 ∨ j = 70 ∨ j = 71 ∨ j = 72 ∨ j = 73 ∨ j = 74 ∨ j = 75 ∨ j = 76 ∨ j = 77 ∨ j = 78 ∨ j = 79 by omega) with rfl | rfl | rfl | rfl | rfl | rfl | rfl | rfl | rfl | rfl | rfl | rfl | rfl | rfl | rfl | rfl
  · exact ⟨mMk_64, mCh_64⟩
  · exact ⟨mMk_65, mCh_65⟩
  · exact ⟨mMk_66, mCh_66⟩
  · exact ⟨mMk_67, mCh_67⟩
  · exact ⟨mMk_68, mCh_68⟩
  · exact ⟨mMk_69, mCh_69⟩
  · exact ⟨mMk_70, mCh_70⟩
  · exact ⟨mMk_71, mCh_71⟩
  · exact ⟨mMk_72, mCh_72⟩
  · exact ⟨mMk_73, mCh_73⟩
  · exact ⟨mMk_74, mCh_74⟩
  · exact ⟨mMk_75, mCh_75⟩
  · exact ⟨mMk_76, mCh_76⟩
  · exact ⟨mMk_77, mCh_77⟩
  · exact ⟨mMk_78, mCh_78⟩
  · exact ⟨mMk_79, mCh_79⟩
theorem mAll_5 : ∀ j, 80 ≤ j → j < 96 → mMok j (mNa j) ∧ mChkM j = true := by
  intro j h1 h2
  rcases (show j = 80 ∨ j = 81 ∨ j = 82 ∨ j = 83 ∨ j = 84 ∨ j = 85 ∨ j = 86 ∨ j = 87 ∨ j = 88 ∨ j = 89 ∨ j = 90 ∨ j = 91 ∨ j = 92 ∨ j = 93 ∨ j = 94 ∨ j = 95 by omega) with rfl | rfl | rfl | rfl | rfl | rfl | rfl | rfl | rfl | rfl | rfl | rfl | rfl | rfl | rfl | rfl
  · exact ⟨mMk_80, mCh_80⟩
  · exact ⟨mMk_81, mCh_81⟩
  · exact ⟨mMk_82, mCh_82⟩
  · exact ⟨mMk_83, mCh_83⟩
  · exact ⟨mMk_84, mCh_84⟩
  · exact ⟨mMk_85, mCh_85⟩
  · exact ⟨mMk_86, mCh_86⟩
  · exact ⟨mMk_87, mCh_87⟩
  · exact ⟨mMk_88, mCh_88⟩
  · exact ⟨mMk_89, mCh_89⟩
  · exact ⟨mMk_90, mCh_90⟩
  · exact ⟨mMk_91, mCh_91⟩
  · exact ⟨mMk_92, mCh_92⟩
  · exact ⟨mMk_93, mCh_93⟩
  · exact ⟨mMk_94, mCh_94⟩
  · exact ⟨mMk_95, mCh_95⟩
theorem mAll_6 : ∀ j, 96 ≤ j → j < 112 → mMok j (mNa j) ∧ mChkM j = true := by
  intro j h1 h2
  rcases (show j = 96 ∨ j = 97 ∨ j = 98 ∨ j = 99 ∨ j = 100 ∨ j = 101 ∨ j = 102 ∨ j = 103 ∨ j = 104 ∨ j = 105 ∨ j = 106 ∨ j = 107 ∨ j = 108 ∨ j = 109 ∨ j = 110 ∨ j = 111 by omega) with rfl | rfl | rfl | rfl | rfl | rfl | rfl | rfl | rfl | rfl | rfl | rfl | rfl | rfl | rfl | rfl
  · exact ⟨mMk_96, mCh_96⟩
  · exact ⟨mMk_97, mCh_97⟩
  · exact ⟨mMk_98, mCh_98⟩
  · exact ⟨mMk_99, mCh_99⟩
  · exact ⟨mMk_100, mCh_100⟩
  · exact ⟨mMk_101, mCh_101⟩
  · exact ⟨mMk_102, mCh_102⟩
  · exact ⟨mMk_103, mCh_103⟩
  · exact ⟨mMk_104, mCh_104⟩
  · exact ⟨mMk_105, mCh_105⟩
  · exact ⟨mMk_106, mCh_106⟩
  · exact ⟨mMk_107, mCh_107⟩
  · exact ⟨mMk_108, mCh_108⟩
  · exact ⟨mMk_109, mCh_109⟩
  · exact ⟨mMk_110, mCh_110⟩
  · exact ⟨mMk_111, mCh_111⟩
theorem mAll_7 : ∀ j, 112 ≤ j → j < 128 → mMok j (mNa j) ∧ mChkM j = true := by
  intro j h1 h2
  rcases (show j = 112 ∨ j = 113 ∨ j = 114 ∨ j = 115 ∨ j = 116 ∨ j = 117 ∨ j = 118 ∨ j = 119 ∨ j = 120 ∨ j = 121 ∨ j = 122 ∨ j = 123 ∨ j = 124 ∨ j = 125 ∨ j = 126 ∨ j = 127 by omega) with rfl | rfl | rfl | rfl | rfl | rfl | rfl | rfl | rfl | rfl | rfl | rfl | rfl | rfl | rfl | rfl
  · exact ⟨mMk_112, mCh_112⟩
  · exact ⟨mMk_113, mCh_113⟩
  · exact ⟨mMk_114, mCh_114⟩
  · exact ⟨mMk_115, mCh_115⟩
  · exact ⟨mMk_116, mCh_116⟩
  · exact ⟨mMk_117, mCh_117⟩
  · exact ⟨mMk_118, mCh_118⟩
  · exact ⟨mMk_119, mCh_119⟩
  · exact ⟨mMk_120, mCh_120⟩
  · exact ⟨mMk_121, mCh_121⟩
  · exact ⟨mMk_122, mCh_122⟩
  · exact ⟨mMk_123, mCh_123⟩
  · exact ⟨mMk_124, mCh_124⟩
  · exact ⟨mMk_125, mCh_125⟩
  · exact ⟨mMk_126, mCh_126⟩
  · exact ⟨mMk_127, mCh_127⟩
theorem mAll_8 : ∀ j, 128 ≤ j → j < 144 → mMok j (mNa j) ∧ mChkM j = true := by
  intro j h1 h2
  rcases (show j = 128 ∨ j = 129 ∨ j = 130 ∨ j = 131 ∨ j = 132 ∨ j = 133 ∨ j = 134 ∨ j = 135 ∨ j = 136 ∨ j = 137 ∨ j = 138 ∨ j = 139 ∨ j = 140 ∨ j = 141 ∨ j = 142 ∨ j = 143 by omega) with rfl | rfl | rfl | rfl | rfl | rfl | rfl | rfl | rfl | rfl | rfl | rfl | rfl | rfl | rfl | rfl
  · exact ⟨mMk_128, mCh_128⟩
  · exact ⟨mMk_129, mCh_129⟩
  · exact ⟨mMk_130, mCh_130⟩
  · exact ⟨mMk_131, mCh_131⟩
  · exact ⟨mMk_132, mCh_132⟩
  · exact ⟨mMk_133, mCh_133⟩
  · exact ⟨mMk_134, mCh_134⟩
  · exact ⟨mMk_135, mCh_135⟩
  · exact ⟨mMk_136, mCh_136⟩
  · exact ⟨mMk_137, mCh_137⟩
  · exact ⟨mMk_138, mCh_138⟩
  · exact ⟨mMk_139, mCh_139⟩
  · exact ⟨mMk_140, mCh_140⟩
  · exact ⟨mMk_141, mCh_141⟩
  · exact ⟨mMk_142, mCh_142⟩
  · exact ⟨mMk_143, mCh_143⟩
theorem mAll_9 : ∀ j, 144 ≤ j → j < 160 → mMok j (mNa j) ∧ mChkM j = true := by
  intro j h1 h2
  rcases (show j = 144 ∨ j = 145 ∨ j = 146 ∨ j = 147 ∨ j = 148 ∨ j = 149 ∨ j = 150 ∨ j = 151 ∨ j = 152 ∨ j = 153 ∨ j = 154 ∨ j = 155 ∨ j = 156 ∨ j = 157 ∨ j = 158 ∨ j = 159 by omega) with rfl | rfl | rfl | rfl | rfl | rfl | rfl | rfl | rfl | rfl | rfl | rfl | rfl | rfl | rfl | rfl
  · exact ⟨mMk_144, mCh_144⟩
  · exact ⟨mMk_145, mCh_145⟩
  · exact ⟨mMk_146, mCh_146⟩
  · exact ⟨mMk_147, mCh_147⟩
  · exact ⟨mMk_148, mCh_148⟩
  · exact ⟨mMk_149, mCh_149⟩
  · exact ⟨mMk_150, mCh_150⟩
  · exact ⟨mMk_151, mCh_151⟩
  · exact ⟨mMk_152, mCh_152⟩
  · exact ⟨mMk_153, mCh_153⟩
  · exact ⟨mMk_154, mCh_154⟩
  · exact ⟨mMk_155, mCh_155⟩
  · exact ⟨mMk_156, mCh_156⟩
  · exact ⟨mMk_157, mCh_157⟩
  · exact ⟨mMk_158, mCh_158⟩
  · exact ⟨mMk_159, mCh_159⟩
theorem mAll_10 : ∀ j, 160 ≤ j → j < 176 → mMok j (mNa j) ∧ mChkM j = true := by
  intro j h1 h2
  rcases (show j = 160 ∨ j = 161 ∨ j = 162 ∨ j = 163 ∨ j = 164 ∨ j = 165 ∨ j = 166 ∨ j = 167 ∨ j = 168 ∨ j = 169 ∨ j = 170 ∨ j = 171 ∨ j = 172 ∨ j = 173 ∨ j = 174 ∨ j = 175 by omega) with rfl | rfl | rfl | rfl | rfl | rfl | rfl | rfl | rfl | rfl | rfl | rfl | rfl | rfl | rfl | rfl
  · exact ⟨mMk_160, mCh_160⟩
  · exact ⟨mMk_161, mCh_161⟩
  · exact ⟨mMk_162, mCh_162⟩
  · exact ⟨mMk_163, mCh_163⟩
  · exact ⟨mMk_164, mCh_164⟩
  · exact ⟨mMk_165, mCh_165⟩
  · exact ⟨mMk_166, mCh_166⟩
  · exact ⟨mMk_167, mCh_167⟩
  · exact ⟨mMk_168, mCh_168⟩
  · exact ⟨mMk_169, mCh_169⟩
  · exact ⟨mMk_170, mCh_170⟩
  · exact ⟨mMk_171, mCh_171⟩
  · exact ⟨mMk_172, mCh_172⟩
  · exact ⟨mMk_173, mCh_173⟩
  · exact ⟨mMk_174, mCh_174⟩
  · exact ⟨mMk_175, mCh_175⟩
theorem mAll_11 : ∀ j, 176 ≤ j → j < 192 → mMok j (mNa j) ∧ mChkM j = true := by
  intro j h1 h2
  rcases (show j = 176 ∨ j = 177 ∨ j = 178 ∨ j = 179 ∨ j = 180 ∨ j = 181 ∨ j = 182 ∨ j = 183 ∨ j = 184 ∨ j = 185 ∨ j = 186 ∨ j = 187 ∨ j = 188 ∨ j = 189 ∨ j = 190 ∨ j = 191 by omega) with rfl | rfl | rfl | rfl | rfl | rfl | rfl | rfl | rfl | rfl | rfl | rfl | rfl | rfl | rfl | rfl
  · exact ⟨mMk_176, mCh_176⟩
  · exact ⟨mMk_177, mCh_177⟩
  · exact ⟨mMk_178, mCh_178⟩
  · exact ⟨mMk_179, mCh_179⟩
  · exact ⟨mMk_180, mCh_180⟩
  · exact ⟨mMk_181, mCh_181⟩
  · exact ⟨mMk_182, mCh_182⟩
  · exact ⟨mMk_183, mCh_183⟩
  · exact ⟨mMk_184, mCh_184⟩
  · exact ⟨mMk_185, mCh_185⟩
  · exact ⟨mMk_186, mCh_186⟩
  · exact ⟨mMk_187, mCh_187⟩
  · exact ⟨mMk_188, mCh_188⟩
  · exact ⟨mMk_189, mCh_189⟩
  · exact ⟨mMk_190, mCh_190⟩
  · exact ⟨mMk_191, mCh_191⟩
theorem mAll_12 : ∀ j, 192 ≤ j → j < 208 → mMok j (mNa j) ∧ mChkM j = true := by
  intro j h1 h2
  rcases (show j = 192 ∨ j = 193 ∨ j = 194 ∨ j = 195 ∨ j = 196 ∨ j = 197 ∨ j = 198 ∨ j = 199 ∨ j = 200 ∨ j = 201 ∨ j = 202 ∨ j = 203 ∨ j = 204 ∨ j = 205 ∨ j = 206 ∨ j = 207 by omega) with rfl | rfl | rfl | rfl | rfl | rfl | rfl | rfl | rfl | rfl | rfl | rfl | rfl | rfl | rfl | rfl
  · exact ⟨mMk_192, mCh_192⟩
  · exact ⟨mMk_193, mCh_193⟩
  · exact ⟨mMk_194, mCh_194⟩
  · exact ⟨mMk_195, mCh_195⟩
  · exact ⟨mMk_196, mCh_196⟩
  · exact ⟨mMk_197, mCh_197⟩
  · exact ⟨mMk_198, mCh_198⟩
  · exact ⟨mMk_199, mCh_199⟩
  · exact ⟨mMk_200, mCh_200⟩
  · exact ⟨mMk_201, mCh_201⟩
  · exact ⟨mMk_202, mCh_202⟩
  · exact ⟨mMk_203, mCh_203⟩
  · exact ⟨mMk_204, mCh_204⟩
  · exact ⟨mMk_205, mCh_205⟩
  · exact ⟨mMk_206, mCh_206⟩
  · exact ⟨mMk_207, mCh_207⟩
theorem mAll_13 : ∀ j, 208 ≤ j → j < 224 → mMok j (mNa j) ∧ mChkM j = true := by
  intro j h1 h2
  rcases (show j = 208 ∨ j = 209 ∨ j = 210 ∨ j = 211 ∨ j = 212 ∨ j = 213 ∨ j = 214 ∨ j = 215 ∨ j = 216 ∨ j = 217 ∨ j = 218 ∨ j = 219 ∨ j = 220 ∨ j = 221 ∨ j = 222 ∨ j = 223 by omega) with rfl | rfl | rfl | rfl | rfl | rfl | rfl | rfl | rfl | rfl | rfl | rfl | rfl | rfl | rfl | rfl
  · exact ⟨mMk_208, mCh_208⟩
  · exact ⟨mMk_209, mCh_209⟩
  · exact ⟨mMk_210, mCh_210⟩
  · exact ⟨mMk_211, mCh_211⟩
  · exact ⟨mMk_212, mCh_212⟩
  · exact ⟨mMk_213, mCh_213⟩
  · exact ⟨mMk_214, mCh_214⟩
  · exact ⟨mMk_215, mCh_215⟩
  · exact ⟨mMk_216, mCh_216⟩
  · exact ⟨mMk_217, mCh_217⟩
  · exact ⟨mMk_218, mCh_218⟩
  · exact ⟨mMk_219, mCh_219⟩
  · exact ⟨mMk_220, mCh_220⟩
  · exact ⟨mMk_221, mCh_221⟩
  · exact ⟨mMk_222, mCh_222⟩
  · exact ⟨mMk_223, mCh_223⟩
theorem mAll_14 : ∀ j, 224 ≤ j → j < 240 → mMok j (mNa j) ∧ mChkM j = true := by
  intro j h1 h2
  rcases (show j = 224 ∨ j = 225 ∨ j = 226 ∨ j = 227 ∨ j = 228 ∨ j = 229 ∨ j = 230 ∨ j = 231 ∨ j = 232 ∨ j = 233 ∨ j = 234 ∨ j = 235 ∨ j = 236 ∨ j = 237 ∨ j = 238 ∨ j = 239 by omega) with rfl | rfl | rfl | rfl | rfl | rfl | rfl | rfl | rfl | rfl | rfl | rfl | rfl | rfl | rfl | rfl
  · exact ⟨mMk_224, mCh_224⟩
  · exact ⟨mMk_225, mCh_225⟩
  · exact ⟨mMk_226, mCh_226⟩
  · exact ⟨mMk_227, mCh_227⟩
  · exact ⟨mMk_228, mCh_228⟩
  · exact ⟨mMk_229, mCh_229⟩
  · exact ⟨mMk_230, mCh_230⟩
  · exact ⟨mMk_231, mCh_231⟩
  · exact ⟨mMk_232, mCh_232⟩
  · exact ⟨mMk_233, mCh_233⟩
  · exact ⟨mMk_234, mCh_234⟩
  · exact ⟨mMk_235, mCh_235⟩
  · exact ⟨mMk_236, mCh_236⟩
  · exact ⟨mMk_237, mCh_237⟩
  · exact ⟨mMk_238, mCh_238⟩
  · exact ⟨mMk_239, mCh_239⟩
theorem mAll_15 : ∀ j, 240 ≤ j → j < 256 → mMok j (mNa j) ∧ mChkM j = true := by
  intro j h1 h2
  rcases (show j = 240 ∨ j = 241 ∨ j = 242 ∨ j = 243 ∨ j = 244 ∨ j = 245 ∨ j = 246 ∨ j = 247 ∨ j = 248 ∨ j = 249 ∨ j = 250 ∨ j = 251 ∨ j = 252 ∨ j = 253 ∨ j = 254 ∨ j = 255 by omega) with rfl | rfl | rfl | rfl | rfl | rfl | rfl | rfl | rfl | rfl | rfl | rfl | rfl | rfl | rfl | rfl
  · exact ⟨mMk_240, mCh_240⟩
  · exact ⟨mMk_241, mCh_241⟩
  · exact ⟨mMk_242, mCh_242⟩
  · exact ⟨mMk_243, mCh_243⟩
  · exact ⟨mMk_244, mCh_244⟩
  · exact ⟨mMk_245, mCh_245⟩
  · exact ⟨mMk_246, mCh_246⟩
  · exact ⟨mMk_247, mCh_247⟩
  · exact ⟨mMk_248, mCh_248⟩
  · exact ⟨mMk_249, mCh_249⟩
  · exact ⟨mMk_250, mCh_250⟩
  · exact ⟨mMk_251, mCh_251⟩
  · exact ⟨mMk_252, mCh_252⟩
  · exact ⟨mMk_253, mCh_253⟩
  · exact ⟨mMk_254, mCh_254⟩
  · exact ⟨mMk_255, mCh_255⟩
theorem mAll_16 : ∀ j, 256 ≤ j → j < 271 → mMok j (mNa j) ∧ mChkM j = true := by
  intro j h1 h2
  rcases (show j = 256 ∨ j = 257 ∨ j = 258 ∨ j = 259 ∨ j = 260 ∨ j = 261 ∨ j = 262 ∨ j = 263 ∨ j = 264 ∨ j = 265 ∨ j = 266 ∨ j = 267 ∨ j = 268 ∨ j = 269 ∨ j = 270 by omega) with rfl | rfl | rfl | rfl | rfl | rfl | rfl | rfl | rfl | rfl | rfl | rfl | rfl | rfl | rfl
  · exact ⟨mMk_256, mCh_256⟩
  · exact ⟨mMk_257, mCh_257⟩
  · exact ⟨mMk_258, mCh_258⟩
  · exact ⟨mMk_259, mCh_259⟩
  · exact ⟨mMk_260, mCh_260⟩
  · exact ⟨mMk_261, mCh_261⟩
  · exact ⟨mMk_262, mCh_262⟩
  · exact ⟨mMk_263, mCh_263⟩
  · exact ⟨mMk_264, mCh_264⟩
  · exact ⟨mMk_265, mCh_265⟩
  · exact ⟨mMk_266, mCh_266⟩
  · exact ⟨mMk_267, mCh_267⟩
  · exact ⟨mMk_268, mCh_268⟩
  · exact ⟨mMk_269, mCh_269⟩
  · exact ⟨mMk_270, mCh_270⟩
theorem mAll_ok : ∀ j, j < 271 → mMok j (mNa j) ∧ mChkM j = true := by
  intro j hj
  by_cases h0 : j < 16
  · exact mAll_0 j (by omega) h0
  by_cases h1 : j < 32
  · exact mAll_1 j (by omega) h1
  by_cases h2 : j < 48
  · exact mAll_2 j (by omega) h2
  by_cases h3 : j < 64
  · exact mAll_3 j (by omega) h3
  by_cases h4 : j < 80
  · exact mAll_4 j (by omega) h4
  by_cases h5 : j < 96
  · exact mAll_5 j (by omega) h5
  by_cases h6 : j < 112
  · exact mAll_6 j (by omega) h6
  by_cases h7 : j < 128
  · exact mAll_7 j (by omega) h7
  by_cases h8 : j < 144
  · exact mAll_8 j (by omega) h8
  by_cases h9 : j < 160
  · exact mAll_9 j (by omega) h9
  by_cases h10 : j < 176
  · exact mAll_10 j (by omega) h10
  by_cases h11 : j < 192
  · exact mAll_11 j (by omega) h11
  by_cases h12 : j < 208
  · exact mAll_12 j (by omega) h12
  by_cases h13 : j < 224
  · exact mAll_13 j (by omega) h13
  by_cases h14 : j < 240
  · exact mAll_14 j (by omega) h14
  by_cases h15 : j < 256
  · exact mAll_15 j (by omega) h15
  by_cases h16 : j < 271
  · exact mAll_16 j (by omega) h16
  omega
/-- every run of the step machine is one of the JVM -/
theorem mSound {l : Launch} {d j : Nat} {as : List Value} {σ τ : mMH} {r : Option Int32} (hj : j < 271) (h : mCall d j as σ r τ) : mMet l d j as σ r τ := mMet_all (fun j hj => (mAll_ok j hj).1) (fun j hj => (mAll_ok j hj).2) d j as σ r τ hj h
