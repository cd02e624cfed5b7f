/-! links, by numbers: each is a word of the tables -/
def mOwn (x : Nat) : String := match x with
  | 0 => RX0
  | 1 => RX1
  | 2 => RX2
  | 3 => RX3
  | 4 => RX4
  | 5 => RX5
  | 6 => RX6
  | 7 => RX7
  | 8 => RX8
  | 9 => RX9
  | 10 => RX10
  | _ => RJ7
def mLFok (e : Nat × Nat × Nat × Nat × Nat) : Prop := e.2.2.1 < 11 ∧ ∃ r, mCL[e.2.2.1]? = some r ∧ Cond.fieldLink (mOwn e.1) e.2.1 r.1 (r.2.1 e.2.2.2.1).2.1 (r.2.1 e.2.2.2.1).2.2.1 ∈ mWT ∧ (r.2.1 e.2.2.2.1).1 = r.1 ∧ (r.2.1 e.2.2.2.1).2.2.2 = decide (e.2.2.2.2 = 1)
def mLMok (e : Nat × Nat × Nat) : Prop := Cond.methodLink (mOwn e.1) e.2.1 (mt e.2.2).2.1 ∈ mWT
def mNW : List Cond := [(Cond.methodLinkNest "MeetingMachines" (32 : Nat) ({ cls := "MeetingMachines$World", name := "<init>", desc := "()V" } : Jvm.MethodName) "MeetingMachines"), (Cond.methodLinkNest "MeetingMachines$World" (9 : Nat) ({ cls := "MeetingMachines$Diary", name := "<init>", desc := "()V" } : Jvm.MethodName) "MeetingMachines"), (Cond.methodLinkNest "MeetingMachines$Machine" (23 : Nat) ({ cls := "MeetingMachines$Timers", name := "<init>", desc := "()V" } : Jvm.MethodName) "MeetingMachines"), (Cond.methodLinkNest "MeetingMachines$Machine" (30 : Nat) ({ cls := "MeetingMachines$Link", name := "<init>", desc := "()V" } : Jvm.MethodName) "MeetingMachines"), (Cond.methodLinkNest "MeetingMachines$History" (17 : Nat) ({ cls := "MeetingMachines$World", name := "<init>", desc := "()V" } : Jvm.MethodName) "MeetingMachines"), (Cond.methodLinkNest "MeetingMachines" (57 : Nat) ({ cls := "MeetingMachines$Ways", name := "<init>", desc := "()V" } : Jvm.MethodName) "MeetingMachines"), (Cond.methodLinkNest "MeetingMachines$Machine" (101 : Nat) ({ cls := "MeetingMachines", name := "isProcess", desc := "(I)Z" } : Jvm.MethodName) "MeetingMachines"), (Cond.methodLinkNest "MeetingMachines$Machine" (186 : Nat) ({ cls := "MeetingMachines", name := "isPlace", desc := "(I)Z" } : Jvm.MethodName) "MeetingMachines"), (Cond.methodLinkNest "MeetingMachines$Machine" (176 : Nat) ({ cls := "MeetingMachines", name := "isW", desc := "(I)Z" } : Jvm.MethodName) "MeetingMachines"), (Cond.methodLinkNest "MeetingMachines$Machine" (221 : Nat) ({ cls := "MeetingMachines", name := "arePlaces", desc := "(II)Z" } : Jvm.MethodName) "MeetingMachines"), (Cond.methodLinkNest "MeetingMachines$Machine" (127 : Nat) ({ cls := "MeetingMachines", name := "isAfter", desc := "(II)Z" } : Jvm.MethodName) "MeetingMachines"), (Cond.methodLinkNest "MeetingMachines$Timers" (30 : Nat) ({ cls := "MeetingMachines", name := "isAfter", desc := "(II)Z" } : Jvm.MethodName) "MeetingMachines")]
def mLNok (e : Nat × Nat × Nat) : Prop := Cond.methodLinkNest (mOwn e.1) e.2.1 (mt e.2.2).2.1 "MeetingMachines" ∈ mNW
def mBn (b : Nat) : MethodName := match b with
  | 0 => arraycopyName
  | 1 => Lib.Math.min.name
  | 3 => yJ0_length_8abf5
  | 4 => yJ0_charAt_5068e
  | _ => Lib.objectInit
def mLXok (e : Nat × Nat × Nat) : Prop := Cond.methodLink (mOwn e.1) e.2.1 (mBn e.2.2) ∈ mWT
def mLCok (e : Nat × Nat × Nat) : Prop := ∃ r, mCL[e.2.2]? = some r ∧ Cond.classLink (mOwn e.1) e.2.1 r.1 ∈ mWT
def mLKok (e : Nat × Nat × Int32) : Prop := Cond.constantLong (mOwn e.1) e.2.1 e.2.2.toInt64 ∈ mWT
theorem mt_0 : mt 0 = (RX0, yX0_init, cX0_init, 1, none, 2, kX0_init) := rfl
theorem mt_1 : mt 1 = (RX0, yX0_empty, cX0_empty, 1, none, 0, kX0_empty) := rfl
theorem mt_2 : mt 2 = (RX0, yX0_note, cX0_note, 7, none, 0, kX0_note) := rfl
theorem mt_3 : mt 3 = (RX0, yX0_tell, cX0_tell, 4, some .int, 0, kX0_tell) := rfl
theorem mt_4 : mt 4 = (RX0, yX0_copy, cX0_copy, 2, none, 0, kX0_copy) := rfl
theorem mt_5 : mt 5 = (RX1, yX1_init, cX1_init, 2, none, 2, kX1_init) := rfl
theorem mt_6 : mt 6 = (RX1, yX1_forget, cX1_forget, 1, none, 0, kX1_forget) := rfl
theorem mt_7 : mt 7 = (RX1, yX1_remember, cX1_remember, 2, none, 0, kX1_remember) := rfl
theorem mt_8 : mt 8 = (RX1, yX1_recall, cX1_recall, 2, some .int, 0, kX1_recall) := rfl
theorem mt_9 : mt 9 = (RX2, yX2_init, cX2_init, 1, none, 2, kX2_init) := rfl
theorem mt_10 : mt 10 = (RX2, yX2_empty, cX2_empty, 1, none, 0, kX2_empty) := rfl
theorem mt_11 : mt 11 = (RX2, yX2_beginSending, cX2_beginSending, 4, none, 0, kX2_beginSending) := rfl
theorem mt_12 : mt 12 = (RX2, yX2_endSending, cX2_endSending, 1, none, 0, kX2_endSending) := rfl
theorem mt_13 : mt 13 = (RX2, yX2_beginReceiving, cX2_beginReceiving, 4, none, 0, kX2_beginReceiving) := rfl
theorem mt_14 : mt 14 = (RX2, yX2_endReceiving, cX2_endReceiving, 1, none, 0, kX2_endReceiving) := rfl
theorem mt_15 : mt 15 = (RX2, yX2_hasToSend, cX2_hasToSend, 1, some .boolean, 0, kX2_hasToSend) := rfl
theorem mt_16 : mt 16 = (RX2, yX2_canReceive, cX2_canReceive, 1, some .boolean, 0, kX2_canReceive) := rfl
theorem mt_17 : mt 17 = (RX2, yX2_tell, cX2_tell, 2, some .int, 0, kX2_tell) := rfl
theorem mt_18 : mt 18 = (RX2, yX2_copy, cX2_copy, 2, none, 0, kX2_copy) := rfl
theorem mt_19 : mt 19 = (RX3, yX3_init, cX3_init, 3, none, 2, kX3_init) := rfl
theorem mt_20 : mt 20 = (RX3, yX3_begin, cX3_begin, 3, none, 0, kX3_begin) := rfl
theorem mt_21 : mt 21 = (RX3, yX3_copy, cX3_copy, 2, none, 0, kX3_copy) := rfl
theorem mt_22 : mt 22 = (RX3, yX3_beginProcess, cX3_beginProcess, 4, none, 0, kX3_beginProcess) := rfl
theorem mt_23 : mt 23 = (RX3, yX3_isHalted, cX3_isHalted, 1, some .boolean, 0, kX3_isHalted) := rfl
theorem mt_24 : mt 24 = (RX3, yX3_isAtRest, cX3_isAtRest, 1, some .boolean, 0, kX3_isAtRest) := rfl
theorem mt_25 : mt 25 = (RX3, yX3_isRunning, cX3_isRunning, 1, some .boolean, 0, kX3_isRunning) := rfl
theorem mt_26 : mt 26 = (RX3, yX3_own, cX3_own, 1, some .int, 0, kX3_own) := rfl
theorem mt_27 : mt 27 = (RX3, yX3_tell, cX3_tell, 2, some .int, 0, kX3_tell) := rfl
theorem mt_28 : mt 28 = (RX3, yX3_inQueue, cX3_inQueue, 6, some .int, 0, kX3_inQueue) := rfl
theorem mt_29 : mt 29 = (RX3, yX3_pass, cX3_pass, 3, none, 0, kX3_pass) := rfl
theorem mt_30 : mt 30 = (RX3, yX3_chooseWhoRuns, cX3_chooseWhoRuns, 1, some .boolean, 0, kX3_chooseWhoRuns) := rfl
theorem mt_31 : mt 31 = (RX3, yX3_take, cX3_take, 4, some .boolean, 0, kX3_take) := rfl
theorem mt_32 : mt 32 = (RX3, yX3_endWaits, cX3_endWaits, 3, none, 0, kX3_endWaits) := rfl
theorem mt_33 : mt 33 = (RX3, yX3_endWait, cX3_endWait, 4, none, 0, kX3_endWait) := rfl
theorem mt_34 : mt 34 = (RX3, yX3_schedule, cX3_schedule, 4, none, 0, kX3_schedule) := rfl
theorem mt_35 : mt 35 = (RX3, yX3_goOff, cX3_goOff, 1, none, 0, kX3_goOff) := rfl
theorem mt_36 : mt 36 = (RX3, yX3_clear, cX3_clear, 1, none, 0, kX3_clear) := rfl
theorem mt_37 : mt 37 = (RX3, yX3_push, cX3_push, 2, none, 0, kX3_push) := rfl
theorem mt_38 : mt 38 = (RX3, yX3_pop, cX3_pop, 1, none, 0, kX3_pop) := rfl
theorem mt_39 : mt 39 = (RX3, yX3_perform, cX3_perform, 5, some .boolean, 0, kX3_perform) := rfl
theorem mt_40 : mt 40 = (RX3, yX3_performTold, cX3_performTold, 5, some .boolean, 0, kX3_performTold) := rfl
theorem mt_41 : mt 41 = (RX3, yX3_pushWord, cX3_pushWord, 2, some .boolean, 0, kX3_pushWord) := rfl
theorem mt_42 : mt 42 = (RX3, yX3_popWord, cX3_popWord, 2, some .boolean, 0, kX3_popWord) := rfl
theorem mt_43 : mt 43 = (RX3, yX3_jump, cX3_jump, 4, none, 0, kX3_jump) := rfl
theorem mt_44 : mt 44 = (RX3, yX3_performOnWords, cX3_performOnWords, 4, some .boolean, 0, kX3_performOnWords) := rfl
theorem mt_45 : mt 45 = (RX3, yX3_load, cX3_load, 1, some .boolean, 0, kX3_load) := rfl
theorem mt_46 : mt 46 = (RX3, yX3_store, cX3_store, 1, some .boolean, 0, kX3_store) := rfl
theorem mt_47 : mt 47 = (RX3, yX3_performOnProcesses, cX3_performOnProcesses, 2, some .boolean, 0, kX3_performOnProcesses) := rfl
theorem mt_48 : mt 48 = (RX3, yX3_startProcess, cX3_startProcess, 2, some .boolean, 0, kX3_startProcess) := rfl
theorem mt_49 : mt 49 = (RX3, yX3_endProcess, cX3_endProcess, 3, some .boolean, 0, kX3_endProcess) := rfl
theorem mt_50 : mt 50 = (RX3, yX3_runProcess, cX3_runProcess, 1, some .boolean, 0, kX3_runProcess) := rfl
theorem mt_51 : mt 51 = (RX3, yX3_waitForTime, cX3_waitForTime, 1, some .boolean, 0, kX3_waitForTime) := rfl
theorem mt_52 : mt 52 = (RX3, yX3_communicate, cX3_communicate, 7, some .boolean, 0, kX3_communicate) := rfl
theorem mt_53 : mt 53 = (RX3, yX3_meet, cX3_meet, 8, none, 0, kX3_meet) := rfl
theorem mt_54 : mt 54 = (RX3, yX3_waitAt, cX3_waitAt, 3, none, 0, kX3_waitAt) := rfl
theorem mt_55 : mt 55 = (RX3, yX3_alert, cX3_alert, 5, none, 0, kX3_alert) := rfl
theorem mt_56 : mt 56 = (RX3, yX3_useLink, cX3_useLink, 6, some .boolean, 0, kX3_useLink) := rfl
theorem mt_57 : mt 57 = (RX3, yX3_performOnGuards, cX3_performOnGuards, 3, some .boolean, 0, kX3_performOnGuards) := rfl
theorem mt_58 : mt 58 = (RX3, yX3_waitForGuard, cX3_waitForGuard, 2, some .boolean, 0, kX3_waitForGuard) := rfl
theorem mt_59 : mt 59 = (RX3, yX3_waitForGuardOrTime, cX3_waitForGuardOrTime, 3, some .boolean, 0, kX3_waitForGuardOrTime) := rfl
theorem mt_60 : mt 60 = (RX3, yX3_enableChannel, cX3_enableChannel, 2, some .boolean, 0, kX3_enableChannel) := rfl
theorem mt_61 : mt 61 = (RX3, yX3_enableLink, cX3_enableLink, 2, none, 0, kX3_enableLink) := rfl
theorem mt_62 : mt 62 = (RX3, yX3_disableChannel, cX3_disableChannel, 3, some .boolean, 0, kX3_disableChannel) := rfl
theorem mt_63 : mt 63 = (RX3, yX3_isChannelIn, cX3_isChannelIn, 1, some .boolean, 1, kX3_isChannelIn) := rfl
theorem mt_64 : mt 64 = (RX3, yX3_fire, cX3_fire, 3, none, 0, kX3_fire) := rfl
theorem mt_65 : mt 65 = (RX3, yX3_enableTime, cX3_enableTime, 2, none, 0, kX3_enableTime) := rfl
theorem mt_66 : mt 66 = (RX3, yX3_fillBuffer, cX3_fillBuffer, 4, none, 0, kX3_fillBuffer) := rfl
theorem mt_67 : mt 67 = (RX3, yX3_emptyBuffer, cX3_emptyBuffer, 2, none, 0, kX3_emptyBuffer) := rfl
theorem mt_68 : mt 68 = (RX4, yX4_init, cX4_init, 1, none, 2, kX4_init) := rfl
theorem mt_69 : mt 69 = (RX4, yX4_empty, cX4_empty, 1, none, 0, kX4_empty) := rfl
theorem mt_70 : mt 70 = (RX4, yX4_setWord, cX4_setWord, 4, none, 0, kX4_setWord) := rfl
theorem mt_71 : mt 71 = (RX4, yX4_addLabel, cX4_addLabel, 2, none, 0, kX4_addLabel) := rfl
theorem mt_72 : mt 72 = (RX4, yX4_addInstruction, cX4_addInstruction, 3, none, 0, kX4_addInstruction) := rfl
theorem mt_73 : mt 73 = (RX4, yX4_addJoin, cX4_addJoin, 5, none, 0, kX4_addJoin) := rfl
theorem mt_74 : mt 74 = (RX4, yX4_addRun, cX4_addRun, 4, none, 0, kX4_addRun) := rfl
theorem mt_75 : mt 75 = (RX4, yX4_placeOf, cX4_placeOf, 3, some .int, 0, kX4_placeOf) := rfl
theorem mt_76 : mt 76 = (RX4, yX4_isSending, cX4_isSending, 4, some .boolean, 0, kX4_isSending) := rfl
theorem mt_77 : mt 77 = (RX4, yX4_isReceiving, cX4_isReceiving, 4, some .boolean, 0, kX4_isReceiving) := rfl
theorem mt_78 : mt 78 = (RX5, yX5_init, cX5_init, 2, none, 2, kX5_init) := rfl
theorem mt_79 : mt 79 = (RX5, yX5_addNames, cX5_addNames, 5, some .int, 0, kX5_addNames) := rfl
theorem mt_80 : mt 80 = (RX5, yX5_pack, cX5_pack, 2, some .int, 1, kX5_pack) := rfl
theorem mt_81 : mt 81 = (RX5, yX5_read, cX5_read, 5, some .int, 0, kX5_read) := rfl
theorem mt_82 : mt 82 = (RX5, yX5_fail, cX5_fail, 3, none, 0, kX5_fail) := rfl
theorem mt_83 : mt 83 = (RX5, yX5_findUses, cX5_findUses, 3, none, 0, kX5_findUses) := rfl
theorem mt_84 : mt 84 = (RX5, yX5_scan, cX5_scan, 2, none, 0, kX5_scan) := rfl
theorem mt_85 : mt 85 = (RX5, yX5_isLetter, cX5_isLetter, 1, some .boolean, 1, kX5_isLetter) := rfl
theorem mt_86 : mt 86 = (RX5, yX5_isDigit, cX5_isDigit, 1, some .boolean, 1, kX5_isDigit) := rfl
theorem mt_87 : mt 87 = (RX5, yX5_scanWord, cX5_scanWord, 2, none, 0, kX5_scanWord) := rfl
theorem mt_88 : mt 88 = (RX5, yX5_scanNumber, cX5_scanNumber, 4, none, 0, kX5_scanNumber) := rfl
theorem mt_89 : mt 89 = (RX5, yX5_name, cX5_name, 2, some .int, 0, kX5_name) := rfl
theorem mt_90 : mt 90 = (RX5, yX5_readLine, cX5_readLine, 2, none, 0, kX5_readLine) := rfl
theorem mt_91 : mt 91 = (RX5, yX5_readSlice, cX5_readSlice, 1, none, 0, kX5_readSlice) := rfl
theorem mt_92 : mt 92 = (RX5, yX5_readWord, cX5_readWord, 4, none, 0, kX5_readWord) := rfl
theorem mt_93 : mt 93 = (RX5, yX5_readJoin, cX5_readJoin, 6, none, 0, kX5_readJoin) := rfl
theorem mt_94 : mt 94 = (RX5, yX5_readRun, cX5_readRun, 4, none, 0, kX5_readRun) := rfl
theorem mt_95 : mt 95 = (RX5, yX5_readInstruction, cX5_readInstruction, 3, none, 0, kX5_readInstruction) := rfl
theorem mt_96 : mt 96 = (RX5, yX5_readLabel, cX5_readLabel, 1, none, 0, kX5_readLabel) := rfl
theorem mt_97 : mt 97 = (RX5, yX5_takeSign, cX5_takeSign, 2, none, 0, kX5_takeSign) := rfl
theorem mt_98 : mt 98 = (RX5, yX5_takeNumber, cX5_takeNumber, 4, some .int, 0, kX5_takeNumber) := rfl
theorem mt_99 : mt 99 = (RX5, yX5_takeUse, cX5_takeUse, 2, none, 0, kX5_takeUse) := rfl
theorem mt_100 : mt 100 = (RX6, yX6_init, cX6_init, 1, none, 2, kX6_init) := rfl
theorem mt_101 : mt 101 = (RX6, yX6_isFull, cX6_isFull, 1, some .boolean, 0, kX6_isFull) := rfl
theorem mt_102 : mt 102 = (RX6, yX6_put, cX6_put, 7, none, 0, kX6_put) := rfl
theorem mt_103 : mt 103 = (RX6, yX6_remove, cX6_remove, 3, none, 0, kX6_remove) := rfl
theorem mt_104 : mt 104 = (RX6, yX6_findByTaltwt, cX6_findByTaltwt, 3, some .int, 0, kX6_findByTaltwt) := rfl
theorem mt_105 : mt 105 = (RX6, yX6_tell, cX6_tell, 3, some .int, 0, kX6_tell) := rfl
theorem mt_106 : mt 106 = (RX6, yX6_copy, cX6_copy, 2, none, 0, kX6_copy) := rfl
theorem mt_107 : mt 107 = (RX7, yX7_init, cX7_init, 1, none, 2, kX7_init) := rfl
theorem mt_108 : mt 108 = (RX7, yX7_comeFrom, cX7_comeFrom, 3, none, 0, kX7_comeFrom) := rfl
theorem mt_109 : mt 109 = (RX7, yX7_comeBack, cX7_comeBack, 3, none, 0, kX7_comeBack) := rfl
theorem mt_110 : mt 110 = (RX7, yX7_pick, cX7_pick, 4, some .int, 0, kX7_pick) := rfl
theorem mt_111 : mt 111 = (RX7, yX7_begin, cX7_begin, 3, none, 0, kX7_begin) := rfl
theorem mt_112 : mt 112 = (RX7, yX7_follow, cX7_follow, 4, none, 0, kX7_follow) := rfl
theorem mt_113 : mt 113 = (RX7, yX7_goOn, cX7_goOn, 5, none, 0, kX7_goOn) := rfl
theorem mt_114 : mt 114 = (RX7, yX7_see, cX7_see, 2, none, 0, kX7_see) := rfl
theorem mt_115 : mt 115 = (RX8, yX8_init, cX8_init, 1, none, 2, kX8_init) := rfl
theorem mt_116 : mt 116 = (RX8, yX8_begin, cX8_begin, 2, none, 0, kX8_begin) := rfl
theorem mt_117 : mt 117 = (RX8, yX8_copy, cX8_copy, 2, none, 0, kX8_copy) := rfl
theorem mt_118 : mt 118 = (RX8, yX8_pass, cX8_pass, 3, none, 0, kX8_pass) := rfl
theorem mt_119 : mt 119 = (RX8, yX8_join, cX8_join, 9, none, 0, kX8_join) := rfl
theorem mt_120 : mt 120 = (RX8, yX8_isStuck, cX8_isStuck, 3, some .boolean, 0, kX8_isStuck) := rfl
theorem mt_121 : mt 121 = (RX8, yX8_wouldMove, cX8_wouldMove, 7, some .boolean, 0, kX8_wouldMove) := rfl
theorem mt_122 : mt 122 = (RX8, yX8_haltedBits, cX8_haltedBits, 1, some .int, 0, kX8_haltedBits) := rfl
theorem mt_123 : mt 123 = (RX9, yX9_init, cX9_init, 1, none, 2, kX9_init) := rfl
theorem mt_124 : mt 124 = (RX9, yX9_feed, cX9_feed, 6, some .int, 0, kX9_feed) := rfl
theorem mt_125 : mt 125 = (RX9, yX9_append, cX9_append, 3, none, 0, kX9_append) := rfl
theorem mt_126 : mt 126 = (RX9, yX9_end, cX9_end, 2, some .boolean, 0, kX9_end) := rfl
theorem mt_127 : mt 127 = (RX9, yX9_text, cX9_text, 3, some .int, 0, kX9_text) := rfl
theorem mt_128 : mt 128 = (RX9, yX9_code, cX9_code, 3, some .int, 0, kX9_code) := rfl
theorem mt_129 : mt 129 = (RX9, yX9_label, cX9_label, 2, some .int, 0, kX9_label) := rfl
theorem mt_130 : mt 130 = (RX9, yX9_reach, cX9_reach, 3, some .int, 0, kX9_reach) := rfl
theorem mt_131 : mt 131 = (RX9, yX9_hog, cX9_hog, 2, some .int, 0, kX9_hog) := rfl
theorem mt_132 : mt 132 = (RX9, yX9_slice, cX9_slice, 3, some .int, 0, kX9_slice) := rfl
theorem mt_133 : mt 133 = (RX9, yX9_poke, cX9_poke, 4, some .boolean, 0, kX9_poke) := rfl
theorem mt_134 : mt 134 = (RX9, yX9_start, cX9_start, 5, some .boolean, 0, kX9_start) := rfl
theorem mt_135 : mt 135 = (RX9, yX9_tick, cX9_tick, 4, some .int, 0, kX9_tick) := rfl
theorem mt_136 : mt 136 = (RX9, yX9_undo, cX9_undo, 1, some .int, 0, kX9_undo) := rfl
theorem mt_137 : mt 137 = (RX9, yX9_machine, cX9_machine, 3, some .int, 0, kX9_machine) := rfl
theorem mt_138 : mt 138 = (RX9, yX9_word, cX9_word, 3, some .int, 0, kX9_word) := rfl
theorem mt_139 : mt 139 = (RX9, yX9_queue, cX9_queue, 4, some .int, 0, kX9_queue) := rfl
theorem mt_140 : mt 140 = (RX9, yX9_timer, cX9_timer, 4, some .int, 0, kX9_timer) := rfl
theorem mt_141 : mt 141 = (RX9, yX9_link, cX9_link, 4, some .int, 0, kX9_link) := rfl
theorem mt_142 : mt 142 = (RX9, yX9_meeting, cX9_meeting, 3, some .int, 0, kX9_meeting) := rfl
theorem mt_143 : mt 143 = (RX9, yX9_stuck, cX9_stuck, 1, some .boolean, 0, kX9_stuck) := rfl
theorem mt_144 : mt 144 = (RX9, yX9_ahead, cX9_ahead, 5, some .int, 0, kX9_ahead) := rfl
theorem mt_145 : mt 145 = (RX9, yX9_isSoFirst, cX9_isSoFirst, 2, some .boolean, 0, kX9_isSoFirst) := rfl
theorem mt_146 : mt 146 = (RX9, yX9_share, cX9_share, 6, some .int, 0, kX9_share) := rfl
theorem mt_147 : mt 147 = (RX9, yX9_until, cX9_until, 6, some .int, 0, kX9_until) := rfl
theorem mt_148 : mt 148 = (RX9, yX9_slices, cX9_slices, 7, some .int, 0, kX9_slices) := rfl
theorem mt_149 : mt 149 = (RX9, yX9_isFound, cX9_isFound, 4, some .boolean, 0, kX9_isFound) := rfl
theorem mt_150 : mt 150 = (RX9, yX9_keep, cX9_keep, 2, some .boolean, 0, kX9_keep) := rfl
theorem mt_151 : mt 151 = (RX9, yX9_back, cX9_back, 2, some .boolean, 0, kX9_back) := rfl
theorem mt_152 : mt 152 = (RX9, yX9_count, cX9_count, 2, some .int, 0, kX9_count) := rfl
theorem mt_153 : mt 153 = (RX9, yX9_isMachine, cX9_isMachine, 1, some .boolean, 1, kX9_isMachine) := rfl
theorem mt_154 : mt 154 = (RX9, yX9_isPlace, cX9_isPlace, 1, some .boolean, 1, kX9_isPlace) := rfl
theorem mt_155 : mt 155 = (RX9, yX9_arePlaces, cX9_arePlaces, 2, some .boolean, 1, kX9_arePlaces) := rfl
theorem mt_156 : mt 156 = (RX9, yX9_isW, cX9_isW, 1, some .boolean, 1, kX9_isW) := rfl
theorem mt_157 : mt 157 = (RX9, yX9_isPriority, cX9_isPriority, 1, some .boolean, 1, kX9_isPriority) := rfl
theorem mt_158 : mt 158 = (RX9, yX9_isProcess, cX9_isProcess, 1, some .boolean, 1, kX9_isProcess) := rfl
theorem mt_159 : mt 159 = (RX9, yX9_isAfter, cX9_isAfter, 2, some .boolean, 1, kX9_isAfter) := rfl
theorem mt_160 : mt 160 = (RX10, yX10_init, cX10_init, 4, none, 2, kX10_init) := rfl
theorem mt_161 : mt 161 = (RX10, yX10_thrown, cX10_thrown, 1, some .int, 0, kX10_thrown) := rfl
theorem mt_162 : mt 162 = (RX10, yX10_isIn, cX10_isIn, 3, some .boolean, 1, kX10_isIn) := rfl
theorem mt_163 : mt 163 = (RX10, yX10_base, cX10_base, 1, some .int, 1, kX10_base) := rfl
theorem mt_164 : mt 164 = (RX10, yX10_types, cX10_types, 3, none, 0, kX10_types) := rfl
theorem mt_165 : mt 165 = (RX10, yX10_feed, cX10_feed, 6, some .int, 0, kX10_feed) := rfl
theorem mt_166 : mt 166 = (RX10, yX10_end, cX10_end, 2, some .boolean, 0, kX10_end) := rfl
theorem mt_167 : mt 167 = (RX10, yX10_seen, cX10_seen, 2, some .int, 0, kX10_seen) := rfl
theorem mt_168 : mt 168 = (RX10, yX10_isDigit, cX10_isDigit, 1, some .boolean, 1, kX10_isDigit) := rfl
theorem mt_169 : mt 169 = (RX10, yX10_isLetter, cX10_isLetter, 1, some .boolean, 1, kX10_isLetter) := rfl
theorem mt_170 : mt 170 = (RX10, yX10_go, cX10_go, 3, none, 0, kX10_go) := rfl
theorem mt_171 : mt 171 = (RX10, yX10_isSign, cX10_isSign, 2, some .boolean, 0, kX10_isSign) := rfl
theorem mt_172 : mt 172 = (RX10, yX10_bad, cX10_bad, 2, some .boolean, 0, kX10_bad) := rfl
theorem mt_173 : mt 173 = (RX10, yX10_nameHere, cX10_nameHere, 2, some .int, 0, kX10_nameHere) := rfl
theorem mt_174 : mt 174 = (RX10, yX10_plain, cX10_plain, 2, none, 0, kX10_plain) := rfl
theorem mt_175 : mt 175 = (RX10, yX10_reads, cX10_reads, 3, some .boolean, 0, kX10_reads) := rfl
theorem mt_176 : mt 176 = (RX10, yX10_readsLabel, cX10_readsLabel, 2, some .boolean, 0, kX10_readsLabel) := rfl
theorem mt_177 : mt 177 = (RX10, yX10_readsSlice, cX10_readsSlice, 1, some .boolean, 0, kX10_readsSlice) := rfl
theorem mt_178 : mt 178 = (RX10, yX10_readsWord, cX10_readsWord, 2, some .boolean, 0, kX10_readsWord) := rfl
theorem mt_179 : mt 179 = (RX10, yX10_readsLink, cX10_readsLink, 5, some .boolean, 0, kX10_readsLink) := rfl
theorem mt_180 : mt 180 = (RX10, yX10_readsJoin, cX10_readsJoin, 1, some .boolean, 0, kX10_readsJoin) := rfl
theorem mt_181 : mt 181 = (RX10, yX10_readsRun, cX10_readsRun, 2, some .boolean, 0, kX10_readsRun) := rfl
theorem mt_182 : mt 182 = (RX10, yX10_readsCode, cX10_readsCode, 2, some .boolean, 0, kX10_readsCode) := rfl
theorem mt_183 : mt 183 = (RX10, yX10_readsLabelled, cX10_readsLabelled, 2, some .boolean, 0, kX10_readsLabelled) := rfl
theorem mt_184 : mt 184 = (RX10, yX10_readsLine, cX10_readsLine, 1, some .boolean, 0, kX10_readsLine) := rfl
theorem mt_185 : mt 185 = (RX10, yX10_readsAll, cX10_readsAll, 1, some .boolean, 0, kX10_readsAll) := rfl
theorem mt_186 : mt 186 = (RX10, yX10_findsLabels, cX10_findsLabels, 4, some .boolean, 0, kX10_findsLabels) := rfl
theorem mt_187 : mt 187 = (RX10, yX10_text, cX10_text, 1, some .int, 0, kX10_text) := rfl
theorem mt_188 : mt 188 = (RX10, yX10_begins, cX10_begins, 3, none, 0, kX10_begins) := rfl
theorem mt_189 : mt 189 = (RX10, yX10_get, cX10_get, 2, some .int, 0, kX10_get) := rfl
theorem mt_190 : mt 190 = (RX10, yX10_set, cX10_set, 3, none, 0, kX10_set) := rfl
theorem mt_191 : mt 191 = (RX10, yX10_isPlace, cX10_isPlace, 1, some .boolean, 1, kX10_isPlace) := rfl
theorem mt_192 : mt 192 = (RX10, yX10_isProcess, cX10_isProcess, 1, some .boolean, 1, kX10_isProcess) := rfl
theorem mt_193 : mt 193 = (RX10, yX10_needs, cX10_needs, 2, none, 0, kX10_needs) := rfl
theorem mt_194 : mt 194 = (RX10, yX10_at, cX10_at, 2, some .int, 0, kX10_at) := rfl
theorem mt_195 : mt 195 = (RX10, yX10_lay, cX10_lay, 3, none, 0, kX10_lay) := rfl
theorem mt_196 : mt 196 = (RX10, yX10_own, cX10_own, 1, some .int, 0, kX10_own) := rfl
theorem mt_197 : mt 197 = (RX10, yX10_schedule, cX10_schedule, 3, none, 0, kX10_schedule) := rfl
theorem mt_198 : mt 198 = (RX10, yX10_take, cX10_take, 3, none, 0, kX10_take) := rfl
theorem mt_199 : mt 199 = (RX10, yX10_clears, cX10_clears, 1, none, 0, kX10_clears) := rfl
theorem mt_200 : mt 200 = (RX10, yX10_rests, cX10_rests, 2, none, 0, kX10_rests) := rfl
theorem mt_201 : mt 201 = (RX10, yX10_resumes, cX10_resumes, 2, none, 0, kX10_resumes) := rfl
theorem mt_202 : mt 202 = (RX10, yX10_turn, cX10_turn, 3, none, 0, kX10_turn) := rfl
theorem mt_203 : mt 203 = (RX10, yX10_comeInTime, cX10_comeInTime, 4, none, 0, kX10_comeInTime) := rfl
theorem mt_204 : mt 204 = (RX10, yX10_leaves, cX10_leaves, 3, none, 0, kX10_leaves) := rfl
theorem mt_205 : mt 205 = (RX10, yX10_waitsTill, cX10_waitsTill, 6, none, 0, kX10_waitsTill) := rfl
theorem mt_206 : mt 206 = (RX10, yX10_wakes, cX10_wakes, 3, none, 0, kX10_wakes) := rfl
theorem mt_207 : mt 207 = (RX10, yX10_meets, cX10_meets, 7, none, 0, kX10_meets) := rfl
theorem mt_208 : mt 208 = (RX10, yX10_push, cX10_push, 2, none, 0, kX10_push) := rfl
theorem mt_209 : mt 209 = (RX10, yX10_pop, cX10_pop, 1, none, 0, kX10_pop) := rfl
theorem mt_210 : mt 210 = (RX10, yX10_off, cX10_off, 1, none, 0, kX10_off) := rfl
theorem mt_211 : mt 211 = (RX10, yX10_joined, cX10_joined, 2, none, 0, kX10_joined) := rfl
theorem mt_212 : mt 212 = (RX10, yX10_does, cX10_does, 3, none, 0, kX10_does) := rfl
theorem mt_213 : mt 213 = (RX10, yX10_doesNamed, cX10_doesNamed, 4, none, 0, kX10_doesNamed) := rfl
theorem mt_214 : mt 214 = (RX10, yX10_doesPlain, cX10_doesPlain, 4, none, 0, kX10_doesPlain) := rfl
theorem mt_215 : mt 215 = (RX10, yX10_begins_, cX10_begins_, 3, none, 0, kX10_begins_) := rfl
theorem mt_216 : mt 216 = (RX10, yX10_ends, cX10_ends, 3, none, 0, kX10_ends) := rfl
theorem mt_217 : mt 217 = (RX10, yX10_waitsTill_, cX10_waitsTill_, 2, none, 0, kX10_waitsTill_) := rfl
theorem mt_218 : mt 218 = (RX10, yX10_passesWords, cX10_passesWords, 8, none, 0, kX10_passesWords) := rfl
theorem mt_219 : mt 219 = (RX10, yX10_waitsAt, cX10_waitsAt, 3, none, 0, kX10_waitsAt) := rfl
theorem mt_220 : mt 220 = (RX10, yX10_copies, cX10_copies, 9, none, 0, kX10_copies) := rfl
theorem mt_221 : mt 221 = (RX10, yX10_passesLink, cX10_passesLink, 6, none, 0, kX10_passesLink) := rfl
theorem mt_222 : mt 222 = (RX10, yX10_doesAlt, cX10_doesAlt, 6, none, 0, kX10_doesAlt) := rfl
theorem mt_223 : mt 223 = (RX10, yX10_waitsForOne, cX10_waitsForOne, 2, none, 0, kX10_waitsForOne) := rfl
theorem mt_224 : mt 224 = (RX10, yX10_waitsForOneInTime, cX10_waitsForOneInTime, 3, none, 0, kX10_waitsForOneInTime) := rfl
theorem mt_225 : mt 225 = (RX10, yX10_enables, cX10_enables, 4, none, 0, kX10_enables) := rfl
theorem mt_226 : mt 226 = (RX10, yX10_disables, cX10_disables, 3, some .boolean, 0, kX10_disables) := rfl
theorem mt_227 : mt 227 = (RX10, yX10_enablesTime, cX10_enablesTime, 3, none, 0, kX10_enablesTime) := rfl
theorem mt_228 : mt 228 = (RX10, yX10_fires, cX10_fires, 3, none, 0, kX10_fires) := rfl
theorem mt_229 : mt 229 = (RX10, yX10_isDead, cX10_isDead, 2, some .boolean, 0, kX10_isDead) := rfl
theorem mt_230 : mt 230 = (RX10, yX10_linkOf, cX10_linkOf, 2, some .int, 0, kX10_linkOf) := rfl
theorem mt_231 : mt 231 = (RX10, yX10_canSend, cX10_canSend, 3, some .boolean, 0, kX10_canSend) := rfl
theorem mt_232 : mt 232 = (RX10, yX10_goes, cX10_goes, 4, none, 0, kX10_goes) := rfl
theorem mt_233 : mt 233 = (RX10, yX10_comesIn, cX10_comesIn, 6, none, 0, kX10_comesIn) := rfl
theorem mt_234 : mt 234 = (RX10, yX10_comesOut, cX10_comesOut, 6, none, 0, kX10_comesOut) := rfl
theorem mt_235 : mt 235 = (RX10, yX10_passes, cX10_passes, 2, none, 0, kX10_passes) := rfl
theorem mt_236 : mt 236 = (RX10, yX10_code, cX10_code, 3, some .int, 0, kX10_code) := rfl
theorem mt_237 : mt 237 = (RX10, yX10_label, cX10_label, 2, some .int, 0, kX10_label) := rfl
theorem mt_238 : mt 238 = (RX10, yX10_comesTo, cX10_comesTo, 2, none, 0, kX10_comesTo) := rfl
theorem mt_239 : mt 239 = (RX10, yX10_spreads, cX10_spreads, 5, none, 0, kX10_spreads) := rfl
theorem mt_240 : mt 240 = (RX10, yX10_leaves_, cX10_leaves_, 3, none, 0, kX10_leaves_) := rfl
theorem mt_241 : mt 241 = (RX10, yX10_comesNowhere, cX10_comesNowhere, 2, none, 0, kX10_comesNowhere) := rfl
theorem mt_242 : mt 242 = (RX10, yX10_kth, cX10_kth, 5, some .int, 0, kX10_kth) := rfl
theorem mt_243 : mt 243 = (RX10, yX10_reach, cX10_reach, 3, some .int, 0, kX10_reach) := rfl
theorem mt_244 : mt 244 = (RX10, yX10_hog, cX10_hog, 3, some .int, 0, kX10_hog) := rfl
theorem mt_245 : mt 245 = (RX10, yX10_keepsAct, cX10_keepsAct, 2, none, 0, kX10_keepsAct) := rfl
theorem mt_246 : mt 246 = (RX10, yX10_undo, cX10_undo, 2, some .int, 0, kX10_undo) := rfl
theorem mt_247 : mt 247 = (RX10, yX10_slice, cX10_slice, 3, some .int, 0, kX10_slice) := rfl
theorem mt_248 : mt 248 = (RX10, yX10_isMachine, cX10_isMachine, 1, some .boolean, 1, kX10_isMachine) := rfl
theorem mt_249 : mt 249 = (RX10, yX10_poke, cX10_poke, 4, some .boolean, 0, kX10_poke) := rfl
theorem mt_250 : mt 250 = (RX10, yX10_start, cX10_start, 5, some .boolean, 0, kX10_start) := rfl
theorem mt_251 : mt 251 = (RX10, yX10_tick, cX10_tick, 4, some .int, 0, kX10_tick) := rfl
theorem mt_252 : mt 252 = (RX10, yX10_machine, cX10_machine, 4, some .int, 0, kX10_machine) := rfl
theorem mt_253 : mt 253 = (RX10, yX10_word, cX10_word, 3, some .int, 0, kX10_word) := rfl
theorem mt_254 : mt 254 = (RX10, yX10_queue, cX10_queue, 7, some .int, 0, kX10_queue) := rfl
theorem mt_255 : mt 255 = (RX10, yX10_timer, cX10_timer, 5, some .int, 0, kX10_timer) := rfl
theorem mt_256 : mt 256 = (RX10, yX10_link, cX10_link, 5, some .int, 0, kX10_link) := rfl
theorem mt_257 : mt 257 = (RX10, yX10_meeting, cX10_meeting, 3, some .int, 0, kX10_meeting) := rfl
theorem mt_258 : mt 258 = (RX10, yX10_isStuck, cX10_isStuck, 4, some .boolean, 0, kX10_isStuck) := rfl
theorem mt_259 : mt 259 = (RX10, yX10_stuck, cX10_stuck, 1, some .boolean, 0, kX10_stuck) := rfl
theorem mt_260 : mt 260 = (RX10, yX10_putsAside, cX10_putsAside, 2, none, 0, kX10_putsAside) := rfl
theorem mt_261 : mt 261 = (RX10, yX10_comesBack, cX10_comesBack, 2, none, 0, kX10_comesBack) := rfl
theorem mt_262 : mt 262 = (RX10, yX10_halted, cX10_halted, 1, some .int, 0, kX10_halted) := rfl
theorem mt_263 : mt 263 = (RX10, yX10_ahead, cX10_ahead, 6, some .int, 0, kX10_ahead) := rfl
theorem mt_264 : mt 264 = (RX10, yX10_share, cX10_share, 6, some .int, 0, kX10_share) := rfl
theorem mt_265 : mt 265 = (RX10, yX10_until, cX10_until, 7, some .int, 0, kX10_until) := rfl
theorem mt_266 : mt 266 = (RX10, yX10_slices, cX10_slices, 9, some .int, 0, kX10_slices) := rfl
theorem mt_267 : mt 267 = (RX10, yX10_keep, cX10_keep, 3, some .boolean, 0, kX10_keep) := rfl
theorem mt_268 : mt 268 = (RX10, yX10_back, cX10_back, 3, some .boolean, 0, kX10_back) := rfl
theorem mt_269 : mt 269 = (RX10, yX10_count, cX10_count, 2, some .int, 0, kX10_count) := rfl
theorem mt_270 : mt 270 = (RJ7, yJ7_fill_53178, cJ7_fill_53178, 4, none, 1, kJ_fill) := rfl
theorem mLF_0_0 : mLFok (0, 11, 0, 2, 1) := ⟨by decide, _, rfl, mW_in (p := 274) rfl rfl, rfl, rfl⟩
theorem mLF_0_1 : mLFok (0, 15, 0, 0, 0) := ⟨by decide, _, rfl, mW_in (p := 269) rfl rfl, rfl, rfl⟩
theorem mLF_0_2 : mLFok (0, 19, 0, 1, 0) := ⟨by decide, _, rfl, mW_in (p := 272) rfl rfl, rfl, rfl⟩
theorem mLF_0_3 : mLFok (1, 13, 1, 2, 1) := ⟨by decide, _, rfl, mW_in (p := 420) rfl rfl, rfl, rfl⟩
theorem mLF_0_4 : mLFok (1, 18, 1, 0, 0) := ⟨by decide, _, rfl, mW_in (p := 417) rfl rfl, rfl, rfl⟩
theorem mLF_0_5 : mLFok (1, 22, 1, 1, 0) := ⟨by decide, _, rfl, mW_in (p := 419) rfl rfl, rfl, rfl⟩
theorem mLF_0_6 : mLFok (2, 17, 2, 7, 0) := ⟨by decide, _, rfl, mW_in (p := 336) rfl rfl, rfl, rfl⟩
theorem mLF_0_7 : mLFok (2, 21, 2, 8, 0) := ⟨by decide, _, rfl, mW_in (p := 339) rfl rfl, rfl, rfl⟩
theorem mLF_0_8 : mLFok (2, 25, 2, 9, 0) := ⟨by decide, _, rfl, mW_in (p := 341) rfl rfl, rfl, rfl⟩
theorem mLF_0_9 : mLFok (2, 28, 2, 0, 0) := ⟨by decide, _, rfl, mW_in (p := 320) rfl rfl, rfl, rfl⟩
theorem mLF_0_10 : mLFok (2, 31, 2, 1, 0) := ⟨by decide, _, rfl, mW_in (p := 323) rfl rfl, rfl, rfl⟩
theorem mLF_0_11 : mLFok (2, 34, 2, 2, 0) := ⟨by decide, _, rfl, mW_in (p := 325) rfl rfl, rfl, rfl⟩
theorem mLF_0_12 : mLFok (2, 37, 2, 3, 0) := ⟨by decide, _, rfl, mW_in (p := 327) rfl rfl, rfl, rfl⟩
theorem mLF_0_13 : mLFok (2, 44, 2, 4, 0) := ⟨by decide, _, rfl, mW_in (p := 329) rfl rfl, rfl, rfl⟩
theorem mLF_0_14 : mLFok (2, 47, 2, 5, 0) := ⟨by decide, _, rfl, mW_in (p := 332) rfl rfl, rfl, rfl⟩
theorem mLF_0_15 : mLFok (2, 50, 2, 6, 0) := ⟨by decide, _, rfl, mW_in (p := 334) rfl rfl, rfl, rfl⟩
def mLF_0 : List (Nat × Nat × Nat × Nat × Nat) := [(0, 11, 0, 2, 1), (0, 15, 0, 0, 0), (0, 19, 0, 1, 0), (1, 13, 1, 2, 1), (1, 18, 1, 0, 0), (1, 22, 1, 1, 0), (2, 17, 2, 7, 0), (2, 21, 2, 8, 0), (2, 25, 2, 9, 0), (2, 28, 2, 0, 0), (2, 31, 2, 1, 0), (2, 34, 2, 2, 0), (2, 37, 2, 3, 0), (2, 44, 2, 4, 0), (2, 47, 2, 5, 0), (2, 50, 2, 6, 0)]
theorem mLF_0_ok : ∀ e ∈ mLF_0, mLFok e := List.forall_mem_cons.mpr ⟨mLF_0_0, List.forall_mem_cons.mpr ⟨mLF_0_1, List.forall_mem_cons.mpr ⟨mLF_0_2, List.forall_mem_cons.mpr ⟨mLF_0_3, List.forall_mem_cons.mpr ⟨mLF_0_4, List.forall_mem_cons.mpr ⟨mLF_0_5, List.forall_mem_cons.mpr ⟨mLF_0_6, List.forall_mem_cons.mpr ⟨mLF_0_7, List.forall_mem_cons.mpr ⟨mLF_0_8, List.forall_mem_cons.mpr ⟨mLF_0_9, List.forall_mem_cons.mpr ⟨mLF_0_10, List.forall_mem_cons.mpr ⟨mLF_0_11, List.forall_mem_cons.mpr ⟨mLF_0_12, List.forall_mem_cons.mpr ⟨mLF_0_13, List.forall_mem_cons.mpr ⟨mLF_0_14, List.forall_mem_cons.mpr ⟨mLF_0_15, fun _ h => absurd h List.not_mem_nil⟩⟩⟩⟩⟩⟩⟩⟩⟩⟩⟩⟩⟩⟩⟩⟩
theorem mLF_1_0 : mLFok (3, 11, 3, 2, 1) := ⟨by decide, _, rfl, mW_in (p := 366) rfl rfl, rfl, rfl⟩
theorem mLF_1_1 : mLFok (3, 15, 3, 3, 1) := ⟨by decide, _, rfl, mW_in (p := 367) rfl rfl, rfl, rfl⟩
theorem mLF_1_2 : mLFok (3, 18, 3, 4, 1) := ⟨by decide, _, rfl, mW_in (p := 368) rfl rfl, rfl, rfl⟩
theorem mLF_1_3 : mLFok (3, 24, 3, 5, 1) := ⟨by decide, _, rfl, mW_in (p := 371) rfl rfl, rfl, rfl⟩
theorem mLF_1_4 : mLFok (3, 31, 3, 6, 1) := ⟨by decide, _, rfl, mW_in (p := 373) rfl rfl, rfl, rfl⟩
theorem mLF_1_5 : mLFok (3, 35, 3, 0, 1) := ⟨by decide, _, rfl, mW_in (p := 364) rfl rfl, rfl, rfl⟩
theorem mLF_1_6 : mLFok (3, 39, 3, 1, 1) := ⟨by decide, _, rfl, mW_in (p := 365) rfl rfl, rfl, rfl⟩
theorem mLF_1_7 : mLFok (3, 49, 4, 17, 1) := ⟨by decide, _, rfl, mW_in (p := 96) rfl rfl, rfl, rfl⟩
theorem mLF_1_8 : mLFok (3, 58, 6, 0, 0) := ⟨by decide, _, rfl, mW_in (p := 296) rfl rfl, rfl, rfl⟩
theorem mLF_1_9 : mLFok (3, 64, 4, 12, 0) := ⟨by decide, _, rfl, mW_in (p := 84) rfl rfl, rfl, rfl⟩
theorem mLF_1_10 : mLFok (3, 67, 4, 13, 1) := ⟨by decide, _, rfl, mW_in (p := 87) rfl rfl, rfl, rfl⟩
theorem mLF_1_11 : mLFok (3, 70, 4, 14, 1) := ⟨by decide, _, rfl, mW_in (p := 89) rfl rfl, rfl, rfl⟩
theorem mLF_1_12 : mLFok (3, 73, 4, 15, 1) := ⟨by decide, _, rfl, mW_in (p := 91) rfl rfl, rfl, rfl⟩
theorem mLF_1_13 : mLFok (3, 76, 4, 16, 1) := ⟨by decide, _, rfl, mW_in (p := 93) rfl rfl, rfl, rfl⟩
theorem mLF_1_14 : mLFok (3, 105, 3, 7, 0) := ⟨by decide, _, rfl, mW_in (p := 376) rfl rfl, rfl, rfl⟩
theorem mLF_1_15 : mLFok (3, 124, 6, 2, 1) := ⟨by decide, _, rfl, mW_in (p := 300) rfl rfl, rfl, rfl⟩
def mLF_1 : List (Nat × Nat × Nat × Nat × Nat) := [(3, 11, 3, 2, 1), (3, 15, 3, 3, 1), (3, 18, 3, 4, 1), (3, 24, 3, 5, 1), (3, 31, 3, 6, 1), (3, 35, 3, 0, 1), (3, 39, 3, 1, 1), (3, 49, 4, 17, 1), (3, 58, 6, 0, 0), (3, 64, 4, 12, 0), (3, 67, 4, 13, 1), (3, 70, 4, 14, 1), (3, 73, 4, 15, 1), (3, 76, 4, 16, 1), (3, 105, 3, 7, 0), (3, 124, 6, 2, 1)]
theorem mLF_1_ok : ∀ e ∈ mLF_1, mLFok e := List.forall_mem_cons.mpr ⟨mLF_1_0, List.forall_mem_cons.mpr ⟨mLF_1_1, List.forall_mem_cons.mpr ⟨mLF_1_2, List.forall_mem_cons.mpr ⟨mLF_1_3, List.forall_mem_cons.mpr ⟨mLF_1_4, List.forall_mem_cons.mpr ⟨mLF_1_5, List.forall_mem_cons.mpr ⟨mLF_1_6, List.forall_mem_cons.mpr ⟨mLF_1_7, List.forall_mem_cons.mpr ⟨mLF_1_8, List.forall_mem_cons.mpr ⟨mLF_1_9, List.forall_mem_cons.mpr ⟨mLF_1_10, List.forall_mem_cons.mpr ⟨mLF_1_11, List.forall_mem_cons.mpr ⟨mLF_1_12, List.forall_mem_cons.mpr ⟨mLF_1_13, List.forall_mem_cons.mpr ⟨mLF_1_14, List.forall_mem_cons.mpr ⟨mLF_1_15, fun _ h => absurd h List.not_mem_nil⟩⟩⟩⟩⟩⟩⟩⟩⟩⟩⟩⟩⟩⟩⟩⟩
theorem mLF_2_0 : mLFok (3, 134, 6, 1, 1) := ⟨by decide, _, rfl, mW_in (p := 298) rfl rfl, rfl, rfl⟩
theorem mLF_2_1 : mLFok (3, 137, 6, 3, 1) := ⟨by decide, _, rfl, mW_in (p := 302) rfl rfl, rfl, rfl⟩
theorem mLF_2_2 : mLFok (3, 144, 4, 1, 0) := ⟨by decide, _, rfl, mW_in (p := 57) rfl rfl, rfl, rfl⟩
theorem mLF_2_3 : mLFok (3, 145, 4, 2, 1) := ⟨by decide, _, rfl, mW_in (p := 61) rfl rfl, rfl, rfl⟩
theorem mLF_2_4 : mLFok (3, 148, 4, 3, 1) := ⟨by decide, _, rfl, mW_in (p := 66) rfl rfl, rfl, rfl⟩
theorem mLF_2_5 : mLFok (3, 248, 2, 0, 0) := ⟨by decide, _, rfl, mW_in (p := 322) rfl rfl, rfl, rfl⟩
theorem mLF_2_6 : mLFok (3, 251, 2, 4, 0) := ⟨by decide, _, rfl, mW_in (p := 331) rfl rfl, rfl, rfl⟩
theorem mLF_2_7 : mLFok (3, 285, 2, 7, 0) := ⟨by decide, _, rfl, mW_in (p := 338) rfl rfl, rfl, rfl⟩
theorem mLF_2_8 : mLFok (3, 288, 2, 9, 0) := ⟨by decide, _, rfl, mW_in (p := 342) rfl rfl, rfl, rfl⟩
theorem mLF_2_9 : mLFok (3, 291, 2, 8, 0) := ⟨by decide, _, rfl, mW_in (p := 340) rfl rfl, rfl, rfl⟩
theorem mLF_2_10 : mLFok (3, 294, 2, 5, 0) := ⟨by decide, _, rfl, mW_in (p := 333) rfl rfl, rfl, rfl⟩
theorem mLF_2_11 : mLFok (3, 297, 2, 6, 0) := ⟨by decide, _, rfl, mW_in (p := 335) rfl rfl, rfl, rfl⟩
theorem mLF_2_12 : mLFok (4, 11, 4, 2, 1) := ⟨by decide, _, rfl, mW_in (p := 58) rfl rfl, rfl, rfl⟩
theorem mLF_2_13 : mLFok (4, 15, 4, 3, 1) := ⟨by decide, _, rfl, mW_in (p := 62) rfl rfl, rfl, rfl⟩
theorem mLF_2_14 : mLFok (4, 18, 4, 5, 1) := ⟨by decide, _, rfl, mW_in (p := 69) rfl rfl, rfl, rfl⟩
theorem mLF_2_15 : mLFok (4, 21, 4, 6, 1) := ⟨by decide, _, rfl, mW_in (p := 70) rfl rfl, rfl, rfl⟩
def mLF_2 : List (Nat × Nat × Nat × Nat × Nat) := [(3, 134, 6, 1, 1), (3, 137, 6, 3, 1), (3, 144, 4, 1, 0), (3, 145, 4, 2, 1), (3, 148, 4, 3, 1), (3, 248, 2, 0, 0), (3, 251, 2, 4, 0), (3, 285, 2, 7, 0), (3, 288, 2, 9, 0), (3, 291, 2, 8, 0), (3, 294, 2, 5, 0), (3, 297, 2, 6, 0), (4, 11, 4, 2, 1), (4, 15, 4, 3, 1), (4, 18, 4, 5, 1), (4, 21, 4, 6, 1)]
theorem mLF_2_ok : ∀ e ∈ mLF_2, mLFok e := List.forall_mem_cons.mpr ⟨mLF_2_0, List.forall_mem_cons.mpr ⟨mLF_2_1, List.forall_mem_cons.mpr ⟨mLF_2_2, List.forall_mem_cons.mpr ⟨mLF_2_3, List.forall_mem_cons.mpr ⟨mLF_2_4, List.forall_mem_cons.mpr ⟨mLF_2_5, List.forall_mem_cons.mpr ⟨mLF_2_6, List.forall_mem_cons.mpr ⟨mLF_2_7, List.forall_mem_cons.mpr ⟨mLF_2_8, List.forall_mem_cons.mpr ⟨mLF_2_9, List.forall_mem_cons.mpr ⟨mLF_2_10, List.forall_mem_cons.mpr ⟨mLF_2_11, List.forall_mem_cons.mpr ⟨mLF_2_12, List.forall_mem_cons.mpr ⟨mLF_2_13, List.forall_mem_cons.mpr ⟨mLF_2_14, List.forall_mem_cons.mpr ⟨mLF_2_15, fun _ h => absurd h List.not_mem_nil⟩⟩⟩⟩⟩⟩⟩⟩⟩⟩⟩⟩⟩⟩⟩⟩
theorem mLF_3_0 : mLFok (4, 24, 4, 8, 1) := ⟨by decide, _, rfl, mW_in (p := 75) rfl rfl, rfl, rfl⟩
theorem mLF_3_1 : mLFok (4, 27, 4, 9, 1) := ⟨by decide, _, rfl, mW_in (p := 77) rfl rfl, rfl, rfl⟩
theorem mLF_3_2 : mLFok (4, 30, 4, 10, 1) := ⟨by decide, _, rfl, mW_in (p := 79) rfl rfl, rfl, rfl⟩
theorem mLF_3_3 : mLFok (4, 33, 4, 11, 1) := ⟨by decide, _, rfl, mW_in (p := 81) rfl rfl, rfl, rfl⟩
theorem mLF_3_4 : mLFok (4, 36, 4, 13, 1) := ⟨by decide, _, rfl, mW_in (p := 86) rfl rfl, rfl, rfl⟩
theorem mLF_3_5 : mLFok (4, 39, 4, 14, 1) := ⟨by decide, _, rfl, mW_in (p := 88) rfl rfl, rfl, rfl⟩
theorem mLF_3_6 : mLFok (4, 42, 4, 15, 1) := ⟨by decide, _, rfl, mW_in (p := 90) rfl rfl, rfl, rfl⟩
theorem mLF_3_7 : mLFok (4, 45, 4, 16, 1) := ⟨by decide, _, rfl, mW_in (p := 92) rfl rfl, rfl, rfl⟩
theorem mLF_3_8 : mLFok (4, 48, 4, 17, 1) := ⟨by decide, _, rfl, mW_in (p := 95) rfl rfl, rfl, rfl⟩
theorem mLF_3_9 : mLFok (4, 54, 4, 0, 0) := ⟨by decide, _, rfl, mW_in (p := 50) rfl rfl, rfl, rfl⟩
theorem mLF_3_10 : mLFok (4, 58, 4, 1, 0) := ⟨by decide, _, rfl, mW_in (p := 53) rfl rfl, rfl, rfl⟩
theorem mLF_3_11 : mLFok (4, 61, 4, 4, 0) := ⟨by decide, _, rfl, mW_in (p := 67) rfl rfl, rfl, rfl⟩
theorem mLF_3_12 : mLFok (4, 64, 4, 7, 0) := ⟨by decide, _, rfl, mW_in (p := 72) rfl rfl, rfl, rfl⟩
theorem mLF_3_13 : mLFok (4, 67, 4, 12, 0) := ⟨by decide, _, rfl, mW_in (p := 83) rfl rfl, rfl, rfl⟩
theorem mLF_3_14 : mLFok (5, 13, 5, 0, 1) := ⟨by decide, _, rfl, mW_in (p := 196) rfl rfl, rfl, rfl⟩
theorem mLF_3_15 : mLFok (5, 17, 5, 1, 0) := ⟨by decide, _, rfl, mW_in (p := 197) rfl rfl, rfl, rfl⟩
def mLF_3 : List (Nat × Nat × Nat × Nat × Nat) := [(4, 24, 4, 8, 1), (4, 27, 4, 9, 1), (4, 30, 4, 10, 1), (4, 33, 4, 11, 1), (4, 36, 4, 13, 1), (4, 39, 4, 14, 1), (4, 42, 4, 15, 1), (4, 45, 4, 16, 1), (4, 48, 4, 17, 1), (4, 54, 4, 0, 0), (4, 58, 4, 1, 0), (4, 61, 4, 4, 0), (4, 64, 4, 7, 0), (4, 67, 4, 12, 0), (5, 13, 5, 0, 1), (5, 17, 5, 1, 0)]
theorem mLF_3_ok : ∀ e ∈ mLF_3, mLFok e := List.forall_mem_cons.mpr ⟨mLF_3_0, List.forall_mem_cons.mpr ⟨mLF_3_1, List.forall_mem_cons.mpr ⟨mLF_3_2, List.forall_mem_cons.mpr ⟨mLF_3_3, List.forall_mem_cons.mpr ⟨mLF_3_4, List.forall_mem_cons.mpr ⟨mLF_3_5, List.forall_mem_cons.mpr ⟨mLF_3_6, List.forall_mem_cons.mpr ⟨mLF_3_7, List.forall_mem_cons.mpr ⟨mLF_3_8, List.forall_mem_cons.mpr ⟨mLF_3_9, List.forall_mem_cons.mpr ⟨mLF_3_10, List.forall_mem_cons.mpr ⟨mLF_3_11, List.forall_mem_cons.mpr ⟨mLF_3_12, List.forall_mem_cons.mpr ⟨mLF_3_13, List.forall_mem_cons.mpr ⟨mLF_3_14, List.forall_mem_cons.mpr ⟨mLF_3_15, fun _ h => absurd h List.not_mem_nil⟩⟩⟩⟩⟩⟩⟩⟩⟩⟩⟩⟩⟩⟩⟩⟩
theorem mLF_4_0 : mLFok (5, 22, 5, 3, 0) := ⟨by decide, _, rfl, mW_in (p := 199) rfl rfl, rfl, rfl⟩
theorem mLF_4_1 : mLFok (5, 26, 5, 11, 1) := ⟨by decide, _, rfl, mW_in (p := 207) rfl rfl, rfl, rfl⟩
theorem mLF_4_2 : mLFok (5, 29, 5, 12, 1) := ⟨by decide, _, rfl, mW_in (p := 208) rfl rfl, rfl, rfl⟩
theorem mLF_4_3 : mLFok (5, 32, 5, 13, 1) := ⟨by decide, _, rfl, mW_in (p := 209) rfl rfl, rfl, rfl⟩
theorem mLF_4_4 : mLFok (5, 68, 5, 2, 0) := ⟨by decide, _, rfl, mW_in (p := 198) rfl rfl, rfl, rfl⟩
theorem mLF_4_5 : mLFok (5, 75, 5, 4, 0) := ⟨by decide, _, rfl, mW_in (p := 200) rfl rfl, rfl, rfl⟩
theorem mLF_4_6 : mLFok (5, 79, 5, 7, 0) := ⟨by decide, _, rfl, mW_in (p := 203) rfl rfl, rfl, rfl⟩
theorem mLF_4_7 : mLFok (5, 82, 5, 9, 0) := ⟨by decide, _, rfl, mW_in (p := 205) rfl rfl, rfl, rfl⟩
theorem mLF_4_8 : mLFok (5, 85, 5, 10, 0) := ⟨by decide, _, rfl, mW_in (p := 206) rfl rfl, rfl, rfl⟩
theorem mLF_4_9 : mLFok (5, 91, 5, 5, 0) := ⟨by decide, _, rfl, mW_in (p := 201) rfl rfl, rfl, rfl⟩
theorem mLF_4_10 : mLFok (5, 108, 4, 3, 1) := ⟨by decide, _, rfl, mW_in (p := 64) rfl rfl, rfl, rfl⟩
theorem mLF_4_11 : mLFok (5, 111, 4, 16, 1) := ⟨by decide, _, rfl, mW_in (p := 94) rfl rfl, rfl, rfl⟩
theorem mLF_4_12 : mLFok (5, 114, 5, 6, 0) := ⟨by decide, _, rfl, mW_in (p := 202) rfl rfl, rfl, rfl⟩
theorem mLF_4_13 : mLFok (5, 130, 5, 8, 0) := ⟨by decide, _, rfl, mW_in (p := 204) rfl rfl, rfl, rfl⟩
theorem mLF_4_14 : mLFok (5, 158, 4, 0, 0) := ⟨by decide, _, rfl, mW_in (p := 52) rfl rfl, rfl, rfl⟩
theorem mLF_4_15 : mLFok (5, 176, 4, 12, 0) := ⟨by decide, _, rfl, mW_in (p := 85) rfl rfl, rfl, rfl⟩
def mLF_4 : List (Nat × Nat × Nat × Nat × Nat) := [(5, 22, 5, 3, 0), (5, 26, 5, 11, 1), (5, 29, 5, 12, 1), (5, 32, 5, 13, 1), (5, 68, 5, 2, 0), (5, 75, 5, 4, 0), (5, 79, 5, 7, 0), (5, 82, 5, 9, 0), (5, 85, 5, 10, 0), (5, 91, 5, 5, 0), (5, 108, 4, 3, 1), (5, 111, 4, 16, 1), (5, 114, 5, 6, 0), (5, 130, 5, 8, 0), (5, 158, 4, 0, 0), (5, 176, 4, 12, 0)]
theorem mLF_4_ok : ∀ e ∈ mLF_4, mLFok e := List.forall_mem_cons.mpr ⟨mLF_4_0, List.forall_mem_cons.mpr ⟨mLF_4_1, List.forall_mem_cons.mpr ⟨mLF_4_2, List.forall_mem_cons.mpr ⟨mLF_4_3, List.forall_mem_cons.mpr ⟨mLF_4_4, List.forall_mem_cons.mpr ⟨mLF_4_5, List.forall_mem_cons.mpr ⟨mLF_4_6, List.forall_mem_cons.mpr ⟨mLF_4_7, List.forall_mem_cons.mpr ⟨mLF_4_8, List.forall_mem_cons.mpr ⟨mLF_4_9, List.forall_mem_cons.mpr ⟨mLF_4_10, List.forall_mem_cons.mpr ⟨mLF_4_11, List.forall_mem_cons.mpr ⟨mLF_4_12, List.forall_mem_cons.mpr ⟨mLF_4_13, List.forall_mem_cons.mpr ⟨mLF_4_14, List.forall_mem_cons.mpr ⟨mLF_4_15, fun _ h => absurd h List.not_mem_nil⟩⟩⟩⟩⟩⟩⟩⟩⟩⟩⟩⟩⟩⟩⟩⟩
theorem mLF_5_0 : mLFok (5, 188, 4, 1, 0) := ⟨by decide, _, rfl, mW_in (p := 56) rfl rfl, rfl, rfl⟩
theorem mLF_5_1 : mLFok (6, 11, 6, 1, 1) := ⟨by decide, _, rfl, mW_in (p := 297) rfl rfl, rfl, rfl⟩
theorem mLF_5_2 : mLFok (6, 15, 6, 2, 1) := ⟨by decide, _, rfl, mW_in (p := 299) rfl rfl, rfl, rfl⟩
theorem mLF_5_3 : mLFok (6, 18, 6, 3, 1) := ⟨by decide, _, rfl, mW_in (p := 301) rfl rfl, rfl, rfl⟩
theorem mLF_5_4 : mLFok (6, 22, 6, 0, 0) := ⟨by decide, _, rfl, mW_in (p := 295) rfl rfl, rfl, rfl⟩
theorem mLF_5_5 : mLFok (7, 11, 7, 1, 1) := ⟨by decide, _, rfl, mW_in (p := 435) rfl rfl, rfl, rfl⟩
theorem mLF_5_6 : mLFok (7, 17, 7, 2, 1) := ⟨by decide, _, rfl, mW_in (p := 436) rfl rfl, rfl, rfl⟩
theorem mLF_5_7 : mLFok (7, 20, 7, 3, 1) := ⟨by decide, _, rfl, mW_in (p := 437) rfl rfl, rfl, rfl⟩
theorem mLF_5_8 : mLFok (7, 36, 7, 0, 0) := ⟨by decide, _, rfl, mW_in (p := 434) rfl rfl, rfl, rfl⟩
theorem mLF_5_9 : mLFok (7, 46, 4, 1, 0) := ⟨by decide, _, rfl, mW_in (p := 54) rfl rfl, rfl, rfl⟩
theorem mLF_5_10 : mLFok (7, 51, 7, 4, 0) := ⟨by decide, _, rfl, mW_in (p := 438) rfl rfl, rfl, rfl⟩
theorem mLF_5_11 : mLFok (7, 54, 4, 2, 1) := ⟨by decide, _, rfl, mW_in (p := 60) rfl rfl, rfl, rfl⟩
theorem mLF_5_12 : mLFok (7, 57, 4, 3, 1) := ⟨by decide, _, rfl, mW_in (p := 65) rfl rfl, rfl, rfl⟩
theorem mLF_5_13 : mLFok (8, 10, 8, 0, 1) := ⟨by decide, _, rfl, mW_in (p := 395) rfl rfl, rfl, rfl⟩
theorem mLF_5_14 : mLFok (8, 21, 8, 1, 1) := ⟨by decide, _, rfl, mW_in (p := 397) rfl rfl, rfl, rfl⟩
theorem mLF_5_15 : mLFok (8, 32, 4, 0, 0) := ⟨by decide, _, rfl, mW_in (p := 51) rfl rfl, rfl, rfl⟩
def mLF_5 : List (Nat × Nat × Nat × Nat × Nat) := [(5, 188, 4, 1, 0), (6, 11, 6, 1, 1), (6, 15, 6, 2, 1), (6, 18, 6, 3, 1), (6, 22, 6, 0, 0), (7, 11, 7, 1, 1), (7, 17, 7, 2, 1), (7, 20, 7, 3, 1), (7, 36, 7, 0, 0), (7, 46, 4, 1, 0), (7, 51, 7, 4, 0), (7, 54, 4, 2, 1), (7, 57, 4, 3, 1), (8, 10, 8, 0, 1), (8, 21, 8, 1, 1), (8, 32, 4, 0, 0)]
theorem mLF_5_ok : ∀ e ∈ mLF_5, mLFok e := List.forall_mem_cons.mpr ⟨mLF_5_0, List.forall_mem_cons.mpr ⟨mLF_5_1, List.forall_mem_cons.mpr ⟨mLF_5_2, List.forall_mem_cons.mpr ⟨mLF_5_3, List.forall_mem_cons.mpr ⟨mLF_5_4, List.forall_mem_cons.mpr ⟨mLF_5_5, List.forall_mem_cons.mpr ⟨mLF_5_6, List.forall_mem_cons.mpr ⟨mLF_5_7, List.forall_mem_cons.mpr ⟨mLF_5_8, List.forall_mem_cons.mpr ⟨mLF_5_9, List.forall_mem_cons.mpr ⟨mLF_5_10, List.forall_mem_cons.mpr ⟨mLF_5_11, List.forall_mem_cons.mpr ⟨mLF_5_12, List.forall_mem_cons.mpr ⟨mLF_5_13, List.forall_mem_cons.mpr ⟨mLF_5_14, List.forall_mem_cons.mpr ⟨mLF_5_15, fun _ h => absurd h List.not_mem_nil⟩⟩⟩⟩⟩⟩⟩⟩⟩⟩⟩⟩⟩⟩⟩⟩
theorem mLF_6_0 : mLFok (8, 38, 8, 2, 0) := ⟨by decide, _, rfl, mW_in (p := 399) rfl rfl, rfl, rfl⟩
theorem mLF_6_1 : mLFok (8, 46, 0, 0, 0) := ⟨by decide, _, rfl, mW_in (p := 270) rfl rfl, rfl, rfl⟩
theorem mLF_6_2 : mLFok (8, 53, 4, 7, 0) := ⟨by decide, _, rfl, mW_in (p := 73) rfl rfl, rfl, rfl⟩
theorem mLF_6_3 : mLFok (8, 59, 4, 8, 1) := ⟨by decide, _, rfl, mW_in (p := 76) rfl rfl, rfl, rfl⟩
theorem mLF_6_4 : mLFok (8, 63, 4, 10, 1) := ⟨by decide, _, rfl, mW_in (p := 80) rfl rfl, rfl, rfl⟩
theorem mLF_6_5 : mLFok (8, 70, 3, 6, 1) := ⟨by decide, _, rfl, mW_in (p := 374) rfl rfl, rfl, rfl⟩
theorem mLF_6_6 : mLFok (8, 74, 4, 9, 1) := ⟨by decide, _, rfl, mW_in (p := 78) rfl rfl, rfl, rfl⟩
theorem mLF_6_7 : mLFok (8, 77, 4, 11, 1) := ⟨by decide, _, rfl, mW_in (p := 82) rfl rfl, rfl, rfl⟩
theorem mLF_6_8 : mLFok (8, 85, 2, 7, 0) := ⟨by decide, _, rfl, mW_in (p := 337) rfl rfl, rfl, rfl⟩
theorem mLF_6_9 : mLFok (8, 89, 3, 4, 1) := ⟨by decide, _, rfl, mW_in (p := 369) rfl rfl, rfl, rfl⟩
theorem mLF_6_10 : mLFok (8, 92, 2, 1, 0) := ⟨by decide, _, rfl, mW_in (p := 324) rfl rfl, rfl, rfl⟩
theorem mLF_6_11 : mLFok (8, 95, 2, 2, 0) := ⟨by decide, _, rfl, mW_in (p := 326) rfl rfl, rfl, rfl⟩
theorem mLF_6_12 : mLFok (8, 105, 2, 4, 0) := ⟨by decide, _, rfl, mW_in (p := 330) rfl rfl, rfl, rfl⟩
theorem mLF_6_13 : mLFok (8, 111, 2, 0, 0) := ⟨by decide, _, rfl, mW_in (p := 321) rfl rfl, rfl, rfl⟩
theorem mLF_6_14 : mLFok (8, 113, 2, 3, 0) := ⟨by decide, _, rfl, mW_in (p := 328) rfl rfl, rfl, rfl⟩
theorem mLF_6_15 : mLFok (9, 9, 9, 0, 1) := ⟨by decide, _, rfl, mW_in (p := 513) rfl rfl, rfl, rfl⟩
def mLF_6 : List (Nat × Nat × Nat × Nat × Nat) := [(8, 38, 8, 2, 0), (8, 46, 0, 0, 0), (8, 53, 4, 7, 0), (8, 59, 4, 8, 1), (8, 63, 4, 10, 1), (8, 70, 3, 6, 1), (8, 74, 4, 9, 1), (8, 77, 4, 11, 1), (8, 85, 2, 7, 0), (8, 89, 3, 4, 1), (8, 92, 2, 1, 0), (8, 95, 2, 2, 0), (8, 105, 2, 4, 0), (8, 111, 2, 0, 0), (8, 113, 2, 3, 0), (9, 9, 9, 0, 1)]
theorem mLF_6_ok : ∀ e ∈ mLF_6, mLFok e := List.forall_mem_cons.mpr ⟨mLF_6_0, List.forall_mem_cons.mpr ⟨mLF_6_1, List.forall_mem_cons.mpr ⟨mLF_6_2, List.forall_mem_cons.mpr ⟨mLF_6_3, List.forall_mem_cons.mpr ⟨mLF_6_4, List.forall_mem_cons.mpr ⟨mLF_6_5, List.forall_mem_cons.mpr ⟨mLF_6_6, List.forall_mem_cons.mpr ⟨mLF_6_7, List.forall_mem_cons.mpr ⟨mLF_6_8, List.forall_mem_cons.mpr ⟨mLF_6_9, List.forall_mem_cons.mpr ⟨mLF_6_10, List.forall_mem_cons.mpr ⟨mLF_6_11, List.forall_mem_cons.mpr ⟨mLF_6_12, List.forall_mem_cons.mpr ⟨mLF_6_13, List.forall_mem_cons.mpr ⟨mLF_6_14, List.forall_mem_cons.mpr ⟨mLF_6_15, fun _ h => absurd h List.not_mem_nil⟩⟩⟩⟩⟩⟩⟩⟩⟩⟩⟩⟩⟩⟩⟩⟩
theorem mLF_7_0 : mLFok (9, 16, 9, 2, 1) := ⟨by decide, _, rfl, mW_in (p := 515) rfl rfl, rfl, rfl⟩
theorem mLF_7_1 : mLFok (9, 23, 9, 3, 0) := ⟨by decide, _, rfl, mW_in (p := 516) rfl rfl, rfl, rfl⟩
theorem mLF_7_2 : mLFok (9, 27, 9, 4, 0) := ⟨by decide, _, rfl, mW_in (p := 517) rfl rfl, rfl, rfl⟩
theorem mLF_7_3 : mLFok (9, 33, 9, 5, 1) := ⟨by decide, _, rfl, mW_in (p := 518) rfl rfl, rfl, rfl⟩
theorem mLF_7_4 : mLFok (9, 37, 9, 6, 1) := ⟨by decide, _, rfl, mW_in (p := 519) rfl rfl, rfl, rfl⟩
theorem mLF_7_5 : mLFok (9, 43, 9, 7, 1) := ⟨by decide, _, rfl, mW_in (p := 520) rfl rfl, rfl, rfl⟩
theorem mLF_7_6 : mLFok (9, 47, 9, 8, 1) := ⟨by decide, _, rfl, mW_in (p := 521) rfl rfl, rfl, rfl⟩
theorem mLF_7_7 : mLFok (9, 51, 9, 9, 1) := ⟨by decide, _, rfl, mW_in (p := 522) rfl rfl, rfl, rfl⟩
theorem mLF_7_8 : mLFok (9, 58, 9, 10, 1) := ⟨by decide, _, rfl, mW_in (p := 523) rfl rfl, rfl, rfl⟩
theorem mLF_7_9 : mLFok (9, 62, 9, 11, 1) := ⟨by decide, _, rfl, mW_in (p := 524) rfl rfl, rfl, rfl⟩
theorem mLF_7_10 : mLFok (9, 70, 9, 1, 0) := ⟨by decide, _, rfl, mW_in (p := 514) rfl rfl, rfl, rfl⟩
theorem mLF_7_11 : mLFok (9, 85, 4, 1, 0) := ⟨by decide, _, rfl, mW_in (p := 55) rfl rfl, rfl, rfl⟩
theorem mLF_7_12 : mLFok (9, 91, 4, 2, 1) := ⟨by decide, _, rfl, mW_in (p := 59) rfl rfl, rfl, rfl⟩
theorem mLF_7_13 : mLFok (9, 94, 4, 3, 1) := ⟨by decide, _, rfl, mW_in (p := 63) rfl rfl, rfl, rfl⟩
theorem mLF_7_14 : mLFok (9, 97, 4, 4, 0) := ⟨by decide, _, rfl, mW_in (p := 68) rfl rfl, rfl, rfl⟩
theorem mLF_7_15 : mLFok (9, 100, 4, 6, 1) := ⟨by decide, _, rfl, mW_in (p := 71) rfl rfl, rfl, rfl⟩
def mLF_7 : List (Nat × Nat × Nat × Nat × Nat) := [(9, 16, 9, 2, 1), (9, 23, 9, 3, 0), (9, 27, 9, 4, 0), (9, 33, 9, 5, 1), (9, 37, 9, 6, 1), (9, 43, 9, 7, 1), (9, 47, 9, 8, 1), (9, 51, 9, 9, 1), (9, 58, 9, 10, 1), (9, 62, 9, 11, 1), (9, 70, 9, 1, 0), (9, 85, 4, 1, 0), (9, 91, 4, 2, 1), (9, 94, 4, 3, 1), (9, 97, 4, 4, 0), (9, 100, 4, 6, 1)]
theorem mLF_7_ok : ∀ e ∈ mLF_7, mLFok e := List.forall_mem_cons.mpr ⟨mLF_7_0, List.forall_mem_cons.mpr ⟨mLF_7_1, List.forall_mem_cons.mpr ⟨mLF_7_2, List.forall_mem_cons.mpr ⟨mLF_7_3, List.forall_mem_cons.mpr ⟨mLF_7_4, List.forall_mem_cons.mpr ⟨mLF_7_5, List.forall_mem_cons.mpr ⟨mLF_7_6, List.forall_mem_cons.mpr ⟨mLF_7_7, List.forall_mem_cons.mpr ⟨mLF_7_8, List.forall_mem_cons.mpr ⟨mLF_7_9, List.forall_mem_cons.mpr ⟨mLF_7_10, List.forall_mem_cons.mpr ⟨mLF_7_11, List.forall_mem_cons.mpr ⟨mLF_7_12, List.forall_mem_cons.mpr ⟨mLF_7_13, List.forall_mem_cons.mpr ⟨mLF_7_14, List.forall_mem_cons.mpr ⟨mLF_7_15, fun _ h => absurd h List.not_mem_nil⟩⟩⟩⟩⟩⟩⟩⟩⟩⟩⟩⟩⟩⟩⟩⟩
theorem mLF_8_0 : mLFok (9, 118, 8, 2, 0) := ⟨by decide, _, rfl, mW_in (p := 400) rfl rfl, rfl, rfl⟩
theorem mLF_8_1 : mLFok (9, 128, 8, 1, 1) := ⟨by decide, _, rfl, mW_in (p := 398) rfl rfl, rfl, rfl⟩
theorem mLF_8_2 : mLFok (9, 132, 3, 4, 1) := ⟨by decide, _, rfl, mW_in (p := 370) rfl rfl, rfl, rfl⟩
theorem mLF_8_3 : mLFok (9, 151, 8, 0, 1) := ⟨by decide, _, rfl, mW_in (p := 396) rfl rfl, rfl, rfl⟩
theorem mLF_8_4 : mLFok (9, 155, 0, 1, 0) := ⟨by decide, _, rfl, mW_in (p := 273) rfl rfl, rfl, rfl⟩
theorem mLF_8_5 : mLFok (9, 174, 3, 5, 1) := ⟨by decide, _, rfl, mW_in (p := 372) rfl rfl, rfl, rfl⟩
theorem mLF_8_6 : mLFok (9, 182, 3, 6, 1) := ⟨by decide, _, rfl, mW_in (p := 375) rfl rfl, rfl, rfl⟩
theorem mLF_8_7 : mLFok (9, 204, 3, 7, 0) := ⟨by decide, _, rfl, mW_in (p := 377) rfl rfl, rfl, rfl⟩
theorem mLF_8_8 : mLFok (9, 211, 4, 7, 0) := ⟨by decide, _, rfl, mW_in (p := 74) rfl rfl, rfl, rfl⟩
theorem mLF_8_9 : mLFok (9, 214, 0, 0, 0) := ⟨by decide, _, rfl, mW_in (p := 271) rfl rfl, rfl, rfl⟩
theorem mLF_8_10 : mLFok (9, 217, 1, 0, 0) := ⟨by decide, _, rfl, mW_in (p := 418) rfl rfl, rfl, rfl⟩
theorem mLF_8_11 : mLFok (10, 7, 10, 2, 1) := ⟨by decide, _, rfl, mW_in (p := 1260) rfl rfl, rfl, rfl⟩
theorem mLF_8_12 : mLFok (10, 13, 10, 3, 1) := ⟨by decide, _, rfl, mW_in (p := 1261) rfl rfl, rfl, rfl⟩
theorem mLF_8_13 : mLFok (10, 17, 10, 13, 1) := ⟨by decide, _, rfl, mW_in (p := 1287) rfl rfl, rfl, rfl⟩
theorem mLF_8_14 : mLFok (10, 20, 10, 14, 1) := ⟨by decide, _, rfl, mW_in (p := 1288) rfl rfl, rfl, rfl⟩
theorem mLF_8_15 : mLFok (10, 23, 10, 15, 1) := ⟨by decide, _, rfl, mW_in (p := 1289) rfl rfl, rfl, rfl⟩
def mLF_8 : List (Nat × Nat × Nat × Nat × Nat) := [(9, 118, 8, 2, 0), (9, 128, 8, 1, 1), (9, 132, 3, 4, 1), (9, 151, 8, 0, 1), (9, 155, 0, 1, 0), (9, 174, 3, 5, 1), (9, 182, 3, 6, 1), (9, 204, 3, 7, 0), (9, 211, 4, 7, 0), (9, 214, 0, 0, 0), (9, 217, 1, 0, 0), (10, 7, 10, 2, 1), (10, 13, 10, 3, 1), (10, 17, 10, 13, 1), (10, 20, 10, 14, 1), (10, 23, 10, 15, 1)]
theorem mLF_8_ok : ∀ e ∈ mLF_8, mLFok e := List.forall_mem_cons.mpr ⟨mLF_8_0, List.forall_mem_cons.mpr ⟨mLF_8_1, List.forall_mem_cons.mpr ⟨mLF_8_2, List.forall_mem_cons.mpr ⟨mLF_8_3, List.forall_mem_cons.mpr ⟨mLF_8_4, List.forall_mem_cons.mpr ⟨mLF_8_5, List.forall_mem_cons.mpr ⟨mLF_8_6, List.forall_mem_cons.mpr ⟨mLF_8_7, List.forall_mem_cons.mpr ⟨mLF_8_8, List.forall_mem_cons.mpr ⟨mLF_8_9, List.forall_mem_cons.mpr ⟨mLF_8_10, List.forall_mem_cons.mpr ⟨mLF_8_11, List.forall_mem_cons.mpr ⟨mLF_8_12, List.forall_mem_cons.mpr ⟨mLF_8_13, List.forall_mem_cons.mpr ⟨mLF_8_14, List.forall_mem_cons.mpr ⟨mLF_8_15, fun _ h => absurd h List.not_mem_nil⟩⟩⟩⟩⟩⟩⟩⟩⟩⟩⟩⟩⟩⟩⟩⟩
theorem mLF_9_0 : mLFok (10, 26, 10, 16, 1) := ⟨by decide, _, rfl, mW_in (p := 1290) rfl rfl, rfl, rfl⟩
theorem mLF_9_1 : mLFok (10, 29, 10, 17, 1) := ⟨by decide, _, rfl, mW_in (p := 1291) rfl rfl, rfl, rfl⟩
theorem mLF_9_2 : mLFok (10, 32, 10, 18, 1) := ⟨by decide, _, rfl, mW_in (p := 1292) rfl rfl, rfl, rfl⟩
theorem mLF_9_3 : mLFok (10, 35, 10, 19, 1) := ⟨by decide, _, rfl, mW_in (p := 1293) rfl rfl, rfl, rfl⟩
theorem mLF_9_4 : mLFok (10, 38, 10, 20, 1) := ⟨by decide, _, rfl, mW_in (p := 1294) rfl rfl, rfl, rfl⟩
theorem mLF_9_5 : mLFok (10, 41, 10, 21, 1) := ⟨by decide, _, rfl, mW_in (p := 1295) rfl rfl, rfl, rfl⟩
theorem mLF_9_6 : mLFok (10, 44, 10, 22, 1) := ⟨by decide, _, rfl, mW_in (p := 1296) rfl rfl, rfl, rfl⟩
theorem mLF_9_7 : mLFok (10, 47, 10, 23, 1) := ⟨by decide, _, rfl, mW_in (p := 1297) rfl rfl, rfl, rfl⟩
theorem mLF_9_8 : mLFok (10, 50, 10, 24, 1) := ⟨by decide, _, rfl, mW_in (p := 1298) rfl rfl, rfl, rfl⟩
theorem mLF_9_9 : mLFok (10, 53, 10, 25, 1) := ⟨by decide, _, rfl, mW_in (p := 1299) rfl rfl, rfl, rfl⟩
theorem mLF_9_10 : mLFok (10, 56, 10, 26, 1) := ⟨by decide, _, rfl, mW_in (p := 1300) rfl rfl, rfl, rfl⟩
theorem mLF_9_11 : mLFok (10, 59, 10, 38, 1) := ⟨by decide, _, rfl, mW_in (p := 1312) rfl rfl, rfl, rfl⟩
theorem mLF_9_12 : mLFok (10, 62, 10, 39, 1) := ⟨by decide, _, rfl, mW_in (p := 1313) rfl rfl, rfl, rfl⟩
theorem mLF_9_13 : mLFok (10, 65, 10, 40, 1) := ⟨by decide, _, rfl, mW_in (p := 1314) rfl rfl, rfl, rfl⟩
theorem mLF_9_14 : mLFok (10, 68, 10, 41, 1) := ⟨by decide, _, rfl, mW_in (p := 1315) rfl rfl, rfl, rfl⟩
theorem mLF_9_15 : mLFok (10, 71, 10, 42, 1) := ⟨by decide, _, rfl, mW_in (p := 1316) rfl rfl, rfl, rfl⟩
def mLF_9 : List (Nat × Nat × Nat × Nat × Nat) := [(10, 26, 10, 16, 1), (10, 29, 10, 17, 1), (10, 32, 10, 18, 1), (10, 35, 10, 19, 1), (10, 38, 10, 20, 1), (10, 41, 10, 21, 1), (10, 44, 10, 22, 1), (10, 47, 10, 23, 1), (10, 50, 10, 24, 1), (10, 53, 10, 25, 1), (10, 56, 10, 26, 1), (10, 59, 10, 38, 1), (10, 62, 10, 39, 1), (10, 65, 10, 40, 1), (10, 68, 10, 41, 1), (10, 71, 10, 42, 1)]
theorem mLF_9_ok : ∀ e ∈ mLF_9, mLFok e := List.forall_mem_cons.mpr ⟨mLF_9_0, List.forall_mem_cons.mpr ⟨mLF_9_1, List.forall_mem_cons.mpr ⟨mLF_9_2, List.forall_mem_cons.mpr ⟨mLF_9_3, List.forall_mem_cons.mpr ⟨mLF_9_4, List.forall_mem_cons.mpr ⟨mLF_9_5, List.forall_mem_cons.mpr ⟨mLF_9_6, List.forall_mem_cons.mpr ⟨mLF_9_7, List.forall_mem_cons.mpr ⟨mLF_9_8, List.forall_mem_cons.mpr ⟨mLF_9_9, List.forall_mem_cons.mpr ⟨mLF_9_10, List.forall_mem_cons.mpr ⟨mLF_9_11, List.forall_mem_cons.mpr ⟨mLF_9_12, List.forall_mem_cons.mpr ⟨mLF_9_13, List.forall_mem_cons.mpr ⟨mLF_9_14, List.forall_mem_cons.mpr ⟨mLF_9_15, fun _ h => absurd h List.not_mem_nil⟩⟩⟩⟩⟩⟩⟩⟩⟩⟩⟩⟩⟩⟩⟩⟩
theorem mLF_10_0 : mLFok (10, 74, 10, 43, 1) := ⟨by decide, _, rfl, mW_in (p := 1317) rfl rfl, rfl, rfl⟩
theorem mLF_10_1 : mLFok (10, 78, 10, 47, 1) := ⟨by decide, _, rfl, mW_in (p := 1321) rfl rfl, rfl, rfl⟩
theorem mLF_10_2 : mLFok (10, 81, 10, 48, 1) := ⟨by decide, _, rfl, mW_in (p := 1322) rfl rfl, rfl, rfl⟩
theorem mLF_10_3 : mLFok (10, 84, 10, 49, 1) := ⟨by decide, _, rfl, mW_in (p := 1323) rfl rfl, rfl, rfl⟩
theorem mLF_10_4 : mLFok (10, 87, 10, 50, 1) := ⟨by decide, _, rfl, mW_in (p := 1324) rfl rfl, rfl, rfl⟩
theorem mLF_10_5 : mLFok (10, 92, 10, 1, 0) := ⟨by decide, _, rfl, mW_in (p := 1259) rfl rfl, rfl, rfl⟩
theorem mLF_10_6 : mLFok (10, 112, 10, 0, 0) := ⟨by decide, _, rfl, mW_in (p := 1258) rfl rfl, rfl, rfl⟩
theorem mLF_10_7 : mLFok (10, 115, 10, 4, 0) := ⟨by decide, _, rfl, mW_in (p := 1262) rfl rfl, rfl, rfl⟩
theorem mLF_10_8 : mLFok (10, 122, 10, 5, 0) := ⟨by decide, _, rfl, mW_in (p := 1263) rfl rfl, rfl, rfl⟩
theorem mLF_10_9 : mLFok (10, 125, 10, 6, 0) := ⟨by decide, _, rfl, mW_in (p := 1280) rfl rfl, rfl, rfl⟩
theorem mLF_10_10 : mLFok (10, 128, 10, 7, 0) := ⟨by decide, _, rfl, mW_in (p := 1281) rfl rfl, rfl, rfl⟩
theorem mLF_10_11 : mLFok (10, 131, 10, 12, 0) := ⟨by decide, _, rfl, mW_in (p := 1286) rfl rfl, rfl, rfl⟩
theorem mLF_10_12 : mLFok (10, 135, 10, 9, 0) := ⟨by decide, _, rfl, mW_in (p := 1283) rfl rfl, rfl, rfl⟩
theorem mLF_10_13 : mLFok (10, 138, 10, 8, 0) := ⟨by decide, _, rfl, mW_in (p := 1282) rfl rfl, rfl, rfl⟩
theorem mLF_10_14 : mLFok (10, 152, 10, 10, 0) := ⟨by decide, _, rfl, mW_in (p := 1284) rfl rfl, rfl, rfl⟩
theorem mLF_10_15 : mLFok (10, 155, 10, 11, 0) := ⟨by decide, _, rfl, mW_in (p := 1285) rfl rfl, rfl, rfl⟩
def mLF_10 : List (Nat × Nat × Nat × Nat × Nat) := [(10, 74, 10, 43, 1), (10, 78, 10, 47, 1), (10, 81, 10, 48, 1), (10, 84, 10, 49, 1), (10, 87, 10, 50, 1), (10, 92, 10, 1, 0), (10, 112, 10, 0, 0), (10, 115, 10, 4, 0), (10, 122, 10, 5, 0), (10, 125, 10, 6, 0), (10, 128, 10, 7, 0), (10, 131, 10, 12, 0), (10, 135, 10, 9, 0), (10, 138, 10, 8, 0), (10, 152, 10, 10, 0), (10, 155, 10, 11, 0)]
theorem mLF_10_ok : ∀ e ∈ mLF_10, mLFok e := List.forall_mem_cons.mpr ⟨mLF_10_0, List.forall_mem_cons.mpr ⟨mLF_10_1, List.forall_mem_cons.mpr ⟨mLF_10_2, List.forall_mem_cons.mpr ⟨mLF_10_3, List.forall_mem_cons.mpr ⟨mLF_10_4, List.forall_mem_cons.mpr ⟨mLF_10_5, List.forall_mem_cons.mpr ⟨mLF_10_6, List.forall_mem_cons.mpr ⟨mLF_10_7, List.forall_mem_cons.mpr ⟨mLF_10_8, List.forall_mem_cons.mpr ⟨mLF_10_9, List.forall_mem_cons.mpr ⟨mLF_10_10, List.forall_mem_cons.mpr ⟨mLF_10_11, List.forall_mem_cons.mpr ⟨mLF_10_12, List.forall_mem_cons.mpr ⟨mLF_10_13, List.forall_mem_cons.mpr ⟨mLF_10_14, List.forall_mem_cons.mpr ⟨mLF_10_15, fun _ h => absurd h List.not_mem_nil⟩⟩⟩⟩⟩⟩⟩⟩⟩⟩⟩⟩⟩⟩⟩⟩
theorem mLF_11_0 : mLFok (10, 158, 10, 27, 0) := ⟨by decide, _, rfl, mW_in (p := 1301) rfl rfl, rfl, rfl⟩
theorem mLF_11_1 : mLFok (10, 161, 10, 28, 0) := ⟨by decide, _, rfl, mW_in (p := 1302) rfl rfl, rfl, rfl⟩
theorem mLF_11_2 : mLFok (10, 164, 10, 29, 0) := ⟨by decide, _, rfl, mW_in (p := 1303) rfl rfl, rfl, rfl⟩
theorem mLF_11_3 : mLFok (10, 167, 10, 30, 0) := ⟨by decide, _, rfl, mW_in (p := 1304) rfl rfl, rfl, rfl⟩
theorem mLF_11_4 : mLFok (10, 170, 10, 31, 0) := ⟨by decide, _, rfl, mW_in (p := 1305) rfl rfl, rfl, rfl⟩
theorem mLF_11_5 : mLFok (10, 173, 10, 32, 0) := ⟨by decide, _, rfl, mW_in (p := 1306) rfl rfl, rfl, rfl⟩
theorem mLF_11_6 : mLFok (10, 176, 10, 36, 0) := ⟨by decide, _, rfl, mW_in (p := 1310) rfl rfl, rfl, rfl⟩
theorem mLF_11_7 : mLFok (10, 187, 10, 37, 0) := ⟨by decide, _, rfl, mW_in (p := 1311) rfl rfl, rfl, rfl⟩
theorem mLF_11_8 : mLFok (10, 238, 10, 33, 0) := ⟨by decide, _, rfl, mW_in (p := 1307) rfl rfl, rfl, rfl⟩
theorem mLF_11_9 : mLFok (10, 241, 10, 34, 0) := ⟨by decide, _, rfl, mW_in (p := 1308) rfl rfl, rfl, rfl⟩
theorem mLF_11_10 : mLFok (10, 244, 10, 35, 0) := ⟨by decide, _, rfl, mW_in (p := 1309) rfl rfl, rfl, rfl⟩
theorem mLF_11_11 : mLFok (10, 250, 10, 45, 0) := ⟨by decide, _, rfl, mW_in (p := 1319) rfl rfl, rfl, rfl⟩
theorem mLF_11_12 : mLFok (10, 260, 10, 44, 0) := ⟨by decide, _, rfl, mW_in (p := 1318) rfl rfl, rfl, rfl⟩
theorem mLF_11_13 : mLFok (10, 263, 10, 46, 0) := ⟨by decide, _, rfl, mW_in (p := 1320) rfl rfl, rfl, rfl⟩
def mLF_11 : List (Nat × Nat × Nat × Nat × Nat) := [(10, 158, 10, 27, 0), (10, 161, 10, 28, 0), (10, 164, 10, 29, 0), (10, 167, 10, 30, 0), (10, 170, 10, 31, 0), (10, 173, 10, 32, 0), (10, 176, 10, 36, 0), (10, 187, 10, 37, 0), (10, 238, 10, 33, 0), (10, 241, 10, 34, 0), (10, 244, 10, 35, 0), (10, 250, 10, 45, 0), (10, 260, 10, 44, 0), (10, 263, 10, 46, 0)]
theorem mLF_11_ok : ∀ e ∈ mLF_11, mLFok e := List.forall_mem_cons.mpr ⟨mLF_11_0, List.forall_mem_cons.mpr ⟨mLF_11_1, List.forall_mem_cons.mpr ⟨mLF_11_2, List.forall_mem_cons.mpr ⟨mLF_11_3, List.forall_mem_cons.mpr ⟨mLF_11_4, List.forall_mem_cons.mpr ⟨mLF_11_5, List.forall_mem_cons.mpr ⟨mLF_11_6, List.forall_mem_cons.mpr ⟨mLF_11_7, List.forall_mem_cons.mpr ⟨mLF_11_8, List.forall_mem_cons.mpr ⟨mLF_11_9, List.forall_mem_cons.mpr ⟨mLF_11_10, List.forall_mem_cons.mpr ⟨mLF_11_11, List.forall_mem_cons.mpr ⟨mLF_11_12, List.forall_mem_cons.mpr ⟨mLF_11_13, fun _ h => absurd h List.not_mem_nil⟩⟩⟩⟩⟩⟩⟩⟩⟩⟩⟩⟩⟩⟩
def mLF (q : Nat) : Option (Nat × Nat × Nat × Nat × Nat) := (([mLF_0, mLF_1, mLF_2, mLF_3, mLF_4, mLF_5, mLF_6, mLF_7, mLF_8, mLF_9, mLF_10, mLF_11] : List (List (Nat × Nat × Nat × Nat × Nat))).getD (q / 16) [])[q % 16]?
theorem mLF_ok {q : Nat} {e : Nat × Nat × Nat × Nat × Nat} (h : mLF q = some e) : mLFok e := by
  have hm := List.mem_of_getElem? h
  rw [List.getD_eq_getElem?_getD] at hm
  revert hm
  generalize q / 16 = k
  match k with
  | 0 => exact fun h => mLF_0_ok e h
  | 1 => exact fun h => mLF_1_ok e h
  | 2 => exact fun h => mLF_2_ok e h
  | 3 => exact fun h => mLF_3_ok e h
  | 4 => exact fun h => mLF_4_ok e h
  | 5 => exact fun h => mLF_5_ok e h
  | 6 => exact fun h => mLF_6_ok e h
  | 7 => exact fun h => mLF_7_ok e h
  | 8 => exact fun h => mLF_8_ok e h
  | 9 => exact fun h => mLF_9_ok e h
  | 10 => exact fun h => mLF_10_ok e h
  | 11 => exact fun h => mLF_11_ok e h
  | k + 12 => exact fun h => absurd h List.not_mem_nil
theorem mLM_0_0 : mLMok (1, 25, 117) := mW_in (p := 729) rfl rfl
theorem mLM_0_1 : mLMok (2, 9, 12) := mW_in (p := 470) rfl rfl
theorem mLM_0_2 : mLMok (2, 14, 14) := mW_in (p := 478) rfl rfl
theorem mLM_0_3 : mLMok (2, 40, 11) := mW_in (p := 474) rfl rfl
theorem mLM_0_4 : mLMok (2, 53, 13) := mW_in (p := 482) rfl rfl
theorem mLM_0_5 : mLMok (3, 43, 270) := mW_in (p := 462) rfl rfl
theorem mLM_0_6 : mLMok (3, 61, 10) := mW_in (p := 466) rfl rfl
theorem mLM_0_7 : mLMok (3, 79, 22) := mW_in (p := 486) rfl rfl
theorem mLM_0_8 : mLMok (3, 83, 106) := mW_in (p := 742) rfl rfl
theorem mLM_0_9 : mLMok (3, 87, 18) := mW_in (p := 747) rfl rfl
theorem mLM_0_10 : mLMok (3, 90, 34) := mW_in (p := 490) rfl rfl
theorem mLM_0_11 : mLMok (3, 94, 23) := mW_in (p := 805) rfl rfl
theorem mLM_0_12 : mLMok (3, 98, 25) := mW_in (p := 810) rfl rfl
theorem mLM_0_13 : mLMok (3, 108, 30) := mW_in (p := 806) rfl rfl
theorem mLM_0_14 : mLMok (3, 111, 39) := mW_in (p := 822) rfl rfl
theorem mLM_0_15 : mLMok (3, 115, 32) := mW_in (p := 977) rfl rfl
def mLM_0 : List (Nat × Nat × Nat) := [(1, 25, 117), (2, 9, 12), (2, 14, 14), (2, 40, 11), (2, 53, 13), (3, 43, 270), (3, 61, 10), (3, 79, 22), (3, 83, 106), (3, 87, 18), (3, 90, 34), (3, 94, 23), (3, 98, 25), (3, 108, 30), (3, 111, 39), (3, 115, 32)]
theorem mLM_0_ok : ∀ e ∈ mLM_0, mLMok e := List.forall_mem_cons.mpr ⟨mLM_0_0, List.forall_mem_cons.mpr ⟨mLM_0_1, List.forall_mem_cons.mpr ⟨mLM_0_2, List.forall_mem_cons.mpr ⟨mLM_0_3, List.forall_mem_cons.mpr ⟨mLM_0_4, List.forall_mem_cons.mpr ⟨mLM_0_5, List.forall_mem_cons.mpr ⟨mLM_0_6, List.forall_mem_cons.mpr ⟨mLM_0_7, List.forall_mem_cons.mpr ⟨mLM_0_8, List.forall_mem_cons.mpr ⟨mLM_0_9, List.forall_mem_cons.mpr ⟨mLM_0_10, List.forall_mem_cons.mpr ⟨mLM_0_11, List.forall_mem_cons.mpr ⟨mLM_0_12, List.forall_mem_cons.mpr ⟨mLM_0_13, List.forall_mem_cons.mpr ⟨mLM_0_14, List.forall_mem_cons.mpr ⟨mLM_0_15, fun _ h => absurd h List.not_mem_nil⟩⟩⟩⟩⟩⟩⟩⟩⟩⟩⟩⟩⟩⟩⟩⟩
theorem mLM_1_0 : mLMok (3, 118, 31) := mW_in (p := 814) rfl rfl
theorem mLM_1_1 : mLMok (3, 121, 36) := mW_in (p := 818) rfl rfl
theorem mLM_1_2 : mLMok (3, 131, 33) := mW_in (p := 981) rfl rfl
theorem mLM_1_3 : mLMok (3, 141, 103) := mW_in (p := 897) rfl rfl
theorem mLM_1_4 : mLMok (3, 150, 40) := mW_in (p := 826) rfl rfl
theorem mLM_1_5 : mLMok (3, 154, 44) := mW_in (p := 860) rfl rfl
theorem mLM_1_6 : mLMok (3, 157, 52) := mW_in (p := 872) rfl rfl
theorem mLM_1_7 : mLMok (3, 161, 47) := mW_in (p := 909) rfl rfl
theorem mLM_1_8 : mLMok (3, 164, 57) := mW_in (p := 942) rfl rfl
theorem mLM_1_9 : mLMok (3, 167, 37) := mW_in (p := 830) rfl rfl
theorem mLM_1_10 : mLMok (3, 170, 41) := mW_in (p := 834) rfl rfl
theorem mLM_1_11 : mLMok (3, 173, 42) := mW_in (p := 839) rfl rfl
theorem mLM_1_12 : mLMok (3, 179, 43) := mW_in (p := 848) rfl rfl
theorem mLM_1_13 : mLMok (3, 183, 38) := mW_in (p := 843) rfl rfl
theorem mLM_1_14 : mLMok (3, 189, 26) := mW_in (p := 852) rfl rfl
theorem mLM_1_15 : mLMok (3, 193, 35) := mW_in (p := 856) rfl rfl
def mLM_1 : List (Nat × Nat × Nat) := [(3, 118, 31), (3, 121, 36), (3, 131, 33), (3, 141, 103), (3, 150, 40), (3, 154, 44), (3, 157, 52), (3, 161, 47), (3, 164, 57), (3, 167, 37), (3, 170, 41), (3, 173, 42), (3, 179, 43), (3, 183, 38), (3, 189, 26), (3, 193, 35)]
theorem mLM_1_ok : ∀ e ∈ mLM_1, mLMok e := List.forall_mem_cons.mpr ⟨mLM_1_0, List.forall_mem_cons.mpr ⟨mLM_1_1, List.forall_mem_cons.mpr ⟨mLM_1_2, List.forall_mem_cons.mpr ⟨mLM_1_3, List.forall_mem_cons.mpr ⟨mLM_1_4, List.forall_mem_cons.mpr ⟨mLM_1_5, List.forall_mem_cons.mpr ⟨mLM_1_6, List.forall_mem_cons.mpr ⟨mLM_1_7, List.forall_mem_cons.mpr ⟨mLM_1_8, List.forall_mem_cons.mpr ⟨mLM_1_9, List.forall_mem_cons.mpr ⟨mLM_1_10, List.forall_mem_cons.mpr ⟨mLM_1_11, List.forall_mem_cons.mpr ⟨mLM_1_12, List.forall_mem_cons.mpr ⟨mLM_1_13, List.forall_mem_cons.mpr ⟨mLM_1_14, List.forall_mem_cons.mpr ⟨mLM_1_15, fun _ h => absurd h List.not_mem_nil⟩⟩⟩⟩⟩⟩⟩⟩⟩⟩⟩⟩⟩⟩⟩⟩
theorem mLM_2_0 : mLMok (3, 196, 45) := mW_in (p := 864) rfl rfl
theorem mLM_2_1 : mLMok (3, 199, 46) := mW_in (p := 868) rfl rfl
theorem mLM_2_2 : mLMok (3, 202, 48) := mW_in (p := 913) rfl rfl
theorem mLM_2_3 : mLMok (3, 205, 49) := mW_in (p := 917) rfl rfl
theorem mLM_2_4 : mLMok (3, 208, 50) := mW_in (p := 921) rfl rfl
theorem mLM_2_5 : mLMok (3, 211, 51) := mW_in (p := 925) rfl rfl
theorem mLM_2_6 : mLMok (3, 214, 101) := mW_in (p := 932) rfl rfl
theorem mLM_2_7 : mLMok (3, 217, 102) := mW_in (p := 936) rfl rfl
theorem mLM_2_8 : mLMok (3, 224, 56) := mW_in (p := 879) rfl rfl
theorem mLM_2_9 : mLMok (3, 228, 54) := mW_in (p := 885) rfl rfl
theorem mLM_2_10 : mLMok (3, 231, 55) := mW_in (p := 889) rfl rfl
theorem mLM_2_11 : mLMok (3, 234, 53) := mW_in (p := 901) rfl rfl
theorem mLM_2_12 : mLMok (3, 238, 2) := mW_in (p := 905) rfl rfl
theorem mLM_2_13 : mLMok (3, 244, 104) := mW_in (p := 893) rfl rfl
theorem mLM_2_14 : mLMok (3, 254, 11) := mW_in (p := 883) rfl rfl
theorem mLM_2_15 : mLMok (3, 257, 13) := mW_in (p := 884) rfl rfl
def mLM_2 : List (Nat × Nat × Nat) := [(3, 196, 45), (3, 199, 46), (3, 202, 48), (3, 205, 49), (3, 208, 50), (3, 211, 51), (3, 214, 101), (3, 217, 102), (3, 224, 56), (3, 228, 54), (3, 231, 55), (3, 234, 53), (3, 238, 2), (3, 244, 104), (3, 254, 11), (3, 257, 13)]
theorem mLM_2_ok : ∀ e ∈ mLM_2, mLMok e := List.forall_mem_cons.mpr ⟨mLM_2_0, List.forall_mem_cons.mpr ⟨mLM_2_1, List.forall_mem_cons.mpr ⟨mLM_2_2, List.forall_mem_cons.mpr ⟨mLM_2_3, List.forall_mem_cons.mpr ⟨mLM_2_4, List.forall_mem_cons.mpr ⟨mLM_2_5, List.forall_mem_cons.mpr ⟨mLM_2_6, List.forall_mem_cons.mpr ⟨mLM_2_7, List.forall_mem_cons.mpr ⟨mLM_2_8, List.forall_mem_cons.mpr ⟨mLM_2_9, List.forall_mem_cons.mpr ⟨mLM_2_10, List.forall_mem_cons.mpr ⟨mLM_2_11, List.forall_mem_cons.mpr ⟨mLM_2_12, List.forall_mem_cons.mpr ⟨mLM_2_13, List.forall_mem_cons.mpr ⟨mLM_2_14, List.forall_mem_cons.mpr ⟨mLM_2_15, fun _ h => absurd h List.not_mem_nil⟩⟩⟩⟩⟩⟩⟩⟩⟩⟩⟩⟩⟩⟩⟩⟩
theorem mLM_3_0 : mLMok (3, 260, 58) := mW_in (p := 946) rfl rfl
theorem mLM_3_1 : mLMok (3, 263, 59) := mW_in (p := 950) rfl rfl
theorem mLM_3_2 : mLMok (3, 266, 60) := mW_in (p := 954) rfl rfl
theorem mLM_3_3 : mLMok (3, 269, 62) := mW_in (p := 965) rfl rfl
theorem mLM_3_4 : mLMok (3, 272, 64) := mW_in (p := 969) rfl rfl
theorem mLM_3_5 : mLMok (3, 276, 65) := mW_in (p := 973) rfl rfl
theorem mLM_3_6 : mLMok (3, 279, 63) := mW_in (p := 958) rfl rfl
theorem mLM_3_7 : mLMok (3, 282, 61) := mW_in (p := 961) rfl rfl
theorem mLM_3_8 : mLMok (3, 300, 14) := mW_in (p := 1006) rfl rfl
theorem mLM_3_9 : mLMok (4, 51, 69) := mW_in (p := 43) rfl rfl
theorem mLM_3_10 : mLMok (4, 70, 270) := mW_in (p := 47) rfl rfl
theorem mLM_3_11 : mLMok (5, 21, 68) := mW_in (p := 39) rfl rfl
theorem mLM_3_12 : mLMok (5, 37, 79) := mW_in (p := 137) rfl rfl
theorem mLM_3_13 : mLMok (5, 59, 80) := mW_in (p := 189) rfl rfl
theorem mLM_3_14 : mLMok (5, 72, 69) := mW_in (p := 573) rfl rfl
theorem mLM_3_15 : mLMok (5, 88, 84) := mW_in (p := 574) rfl rfl
def mLM_3 : List (Nat × Nat × Nat) := [(3, 260, 58), (3, 263, 59), (3, 266, 60), (3, 269, 62), (3, 272, 64), (3, 276, 65), (3, 279, 63), (3, 282, 61), (3, 300, 14), (4, 51, 69), (4, 70, 270), (5, 21, 68), (5, 37, 79), (5, 59, 80), (5, 72, 69), (5, 88, 84)]
theorem mLM_3_ok : ∀ e ∈ mLM_3, mLMok e := List.forall_mem_cons.mpr ⟨mLM_3_0, List.forall_mem_cons.mpr ⟨mLM_3_1, List.forall_mem_cons.mpr ⟨mLM_3_2, List.forall_mem_cons.mpr ⟨mLM_3_3, List.forall_mem_cons.mpr ⟨mLM_3_4, List.forall_mem_cons.mpr ⟨mLM_3_5, List.forall_mem_cons.mpr ⟨mLM_3_6, List.forall_mem_cons.mpr ⟨mLM_3_7, List.forall_mem_cons.mpr ⟨mLM_3_8, List.forall_mem_cons.mpr ⟨mLM_3_9, List.forall_mem_cons.mpr ⟨mLM_3_10, List.forall_mem_cons.mpr ⟨mLM_3_11, List.forall_mem_cons.mpr ⟨mLM_3_12, List.forall_mem_cons.mpr ⟨mLM_3_13, List.forall_mem_cons.mpr ⟨mLM_3_14, List.forall_mem_cons.mpr ⟨mLM_3_15, fun _ h => absurd h List.not_mem_nil⟩⟩⟩⟩⟩⟩⟩⟩⟩⟩⟩⟩⟩⟩⟩⟩
theorem mLM_4_0 : mLMok (5, 94, 90) := mW_in (p := 592) rfl rfl
theorem mLM_4_1 : mLMok (5, 97, 83) := mW_in (p := 672) rfl rfl
theorem mLM_4_2 : mLMok (5, 100, 75) := mW_in (p := 656) rfl rfl
theorem mLM_4_3 : mLMok (5, 104, 82) := mW_in (p := 604) rfl rfl
theorem mLM_4_4 : mLMok (5, 117, 85) := mW_in (p := 578) rfl rfl
theorem mLM_4_5 : mLMok (5, 121, 87) := mW_in (p := 581) rfl rfl
theorem mLM_4_6 : mLMok (5, 124, 86) := mW_in (p := 585) rfl rfl
theorem mLM_4_7 : mLMok (5, 127, 88) := mW_in (p := 588) rfl rfl
theorem mLM_4_8 : mLMok (5, 133, 89) := mW_in (p := 596) rfl rfl
theorem mLM_4_9 : mLMok (5, 136, 91) := mW_in (p := 600) rfl rfl
theorem mLM_4_10 : mLMok (5, 139, 92) := mW_in (p := 612) rfl rfl
theorem mLM_4_11 : mLMok (5, 142, 93) := mW_in (p := 620) rfl rfl
theorem mLM_4_12 : mLMok (5, 145, 94) := mW_in (p := 636) rfl rfl
theorem mLM_4_13 : mLMok (5, 148, 95) := mW_in (p := 648) rfl rfl
theorem mLM_4_14 : mLMok (5, 151, 97) := mW_in (p := 664) rfl rfl
theorem mLM_4_15 : mLMok (5, 155, 98) := mW_in (p := 608) rfl rfl
def mLM_4 : List (Nat × Nat × Nat) := [(5, 94, 90), (5, 97, 83), (5, 100, 75), (5, 104, 82), (5, 117, 85), (5, 121, 87), (5, 124, 86), (5, 127, 88), (5, 133, 89), (5, 136, 91), (5, 139, 92), (5, 142, 93), (5, 145, 94), (5, 148, 95), (5, 151, 97), (5, 155, 98)]
theorem mLM_4_ok : ∀ e ∈ mLM_4, mLMok e := List.forall_mem_cons.mpr ⟨mLM_4_0, List.forall_mem_cons.mpr ⟨mLM_4_1, List.forall_mem_cons.mpr ⟨mLM_4_2, List.forall_mem_cons.mpr ⟨mLM_4_3, List.forall_mem_cons.mpr ⟨mLM_4_4, List.forall_mem_cons.mpr ⟨mLM_4_5, List.forall_mem_cons.mpr ⟨mLM_4_6, List.forall_mem_cons.mpr ⟨mLM_4_7, List.forall_mem_cons.mpr ⟨mLM_4_8, List.forall_mem_cons.mpr ⟨mLM_4_9, List.forall_mem_cons.mpr ⟨mLM_4_10, List.forall_mem_cons.mpr ⟨mLM_4_11, List.forall_mem_cons.mpr ⟨mLM_4_12, List.forall_mem_cons.mpr ⟨mLM_4_13, List.forall_mem_cons.mpr ⟨mLM_4_14, List.forall_mem_cons.mpr ⟨mLM_4_15, fun _ h => absurd h List.not_mem_nil⟩⟩⟩⟩⟩⟩⟩⟩⟩⟩⟩⟩⟩⟩⟩⟩
theorem mLM_5_0 : mLMok (5, 161, 70) := mW_in (p := 616) rfl rfl
theorem mLM_5_1 : mLMok (5, 165, 76) := mW_in (p := 624) rfl rfl
theorem mLM_5_2 : mLMok (5, 169, 77) := mW_in (p := 628) rfl rfl
theorem mLM_5_3 : mLMok (5, 172, 73) := mW_in (p := 632) rfl rfl
theorem mLM_5_4 : mLMok (5, 179, 99) := mW_in (p := 640) rfl rfl
theorem mLM_5_5 : mLMok (5, 182, 74) := mW_in (p := 644) rfl rfl
theorem mLM_5_6 : mLMok (5, 185, 96) := mW_in (p := 652) rfl rfl
theorem mLM_5_7 : mLMok (5, 189, 72) := mW_in (p := 668) rfl rfl
theorem mLM_5_8 : mLMok (5, 192, 71) := mW_in (p := 660) rfl rfl
theorem mLM_5_9 : mLMok (6, 26, 101) := mW_in (p := 940) rfl rfl
theorem mLM_5_10 : mLMok (7, 24, 111) := mW_in (p := 692) rfl rfl
theorem mLM_5_11 : mLMok (7, 28, 114) := mW_in (p := 696) rfl rfl
theorem mLM_5_12 : mLMok (7, 32, 112) := mW_in (p := 700) rfl rfl
theorem mLM_5_13 : mLMok (7, 47, 113) := mW_in (p := 704) rfl rfl
theorem mLM_5_14 : mLMok (8, 18, 19) := mW_in (p := 285) rfl rfl
theorem mLM_5_15 : mLMok (8, 25, 1) := mW_in (p := 454) rfl rfl
def mLM_5 : List (Nat × Nat × Nat) := [(5, 161, 70), (5, 165, 76), (5, 169, 77), (5, 172, 73), (5, 179, 99), (5, 182, 74), (5, 185, 96), (5, 189, 72), (5, 192, 71), (6, 26, 101), (7, 24, 111), (7, 28, 114), (7, 32, 112), (7, 47, 113), (8, 18, 19), (8, 25, 1)]
theorem mLM_5_ok : ∀ e ∈ mLM_5, mLMok e := List.forall_mem_cons.mpr ⟨mLM_5_0, List.forall_mem_cons.mpr ⟨mLM_5_1, List.forall_mem_cons.mpr ⟨mLM_5_2, List.forall_mem_cons.mpr ⟨mLM_5_3, List.forall_mem_cons.mpr ⟨mLM_5_4, List.forall_mem_cons.mpr ⟨mLM_5_5, List.forall_mem_cons.mpr ⟨mLM_5_6, List.forall_mem_cons.mpr ⟨mLM_5_7, List.forall_mem_cons.mpr ⟨mLM_5_8, List.forall_mem_cons.mpr ⟨mLM_5_9, List.forall_mem_cons.mpr ⟨mLM_5_10, List.forall_mem_cons.mpr ⟨mLM_5_11, List.forall_mem_cons.mpr ⟨mLM_5_12, List.forall_mem_cons.mpr ⟨mLM_5_13, List.forall_mem_cons.mpr ⟨mLM_5_14, List.forall_mem_cons.mpr ⟨mLM_5_15, fun _ h => absurd h List.not_mem_nil⟩⟩⟩⟩⟩⟩⟩⟩⟩⟩⟩⟩⟩⟩⟩⟩
theorem mLM_6_0 : mLMok (8, 28, 20) := mW_in (p := 458) rfl rfl
theorem mLM_6_1 : mLMok (8, 39, 4) := mW_in (p := 733) rfl rfl
theorem mLM_6_2 : mLMok (8, 43, 21) := mW_in (p := 738) rfl rfl
theorem mLM_6_3 : mLMok (8, 49, 29) := mW_in (p := 801) rfl rfl
theorem mLM_6_4 : mLMok (8, 56, 119) := mW_in (p := 985) rfl rfl
theorem mLM_6_5 : mLMok (8, 66, 23) := mW_in (p := 989) rfl rfl
theorem mLM_6_6 : mLMok (8, 80, 15) := mW_in (p := 990) rfl rfl
theorem mLM_6_7 : mLMok (8, 98, 66) := mW_in (p := 994) rfl rfl
theorem mLM_6_8 : mLMok (8, 102, 16) := mW_in (p := 998) rfl rfl
theorem mLM_6_9 : mLMok (8, 107, 67) := mW_in (p := 1002) rfl rfl
theorem mLM_6_10 : mLMok (8, 116, 2) := mW_in (p := 1007) rfl rfl
theorem mLM_6_11 : mLMok (8, 120, 34) := mW_in (p := 1024) rfl rfl
theorem mLM_6_12 : mLMok (8, 124, 12) := mW_in (p := 1025) rfl rfl
theorem mLM_6_13 : mLMok (8, 127, 24) := mW_in (p := 1083) rfl rfl
theorem mLM_6_14 : mLMok (8, 130, 121) := mW_in (p := 1087) rfl rfl
theorem mLM_6_15 : mLMok (9, 15, 78) := mW_in (p := 33) rfl rfl
def mLM_6 : List (Nat × Nat × Nat) := [(8, 28, 20), (8, 39, 4), (8, 43, 21), (8, 49, 29), (8, 56, 119), (8, 66, 23), (8, 80, 15), (8, 98, 66), (8, 102, 16), (8, 107, 67), (8, 116, 2), (8, 120, 34), (8, 124, 12), (8, 127, 24), (8, 130, 121), (9, 15, 78)]
theorem mLM_6_ok : ∀ e ∈ mLM_6, mLMok e := List.forall_mem_cons.mpr ⟨mLM_6_0, List.forall_mem_cons.mpr ⟨mLM_6_1, List.forall_mem_cons.mpr ⟨mLM_6_2, List.forall_mem_cons.mpr ⟨mLM_6_3, List.forall_mem_cons.mpr ⟨mLM_6_4, List.forall_mem_cons.mpr ⟨mLM_6_5, List.forall_mem_cons.mpr ⟨mLM_6_6, List.forall_mem_cons.mpr ⟨mLM_6_7, List.forall_mem_cons.mpr ⟨mLM_6_8, List.forall_mem_cons.mpr ⟨mLM_6_9, List.forall_mem_cons.mpr ⟨mLM_6_10, List.forall_mem_cons.mpr ⟨mLM_6_11, List.forall_mem_cons.mpr ⟨mLM_6_12, List.forall_mem_cons.mpr ⟨mLM_6_13, List.forall_mem_cons.mpr ⟨mLM_6_14, List.forall_mem_cons.mpr ⟨mLM_6_15, fun _ h => absurd h List.not_mem_nil⟩⟩⟩⟩⟩⟩⟩⟩⟩⟩⟩⟩⟩⟩⟩⟩
theorem mLM_7_0 : mLMok (9, 22, 68) := mW_in (p := 256) rfl rfl
theorem mLM_7_1 : mLMok (9, 42, 5) := mW_in (p := 410) rfl rfl
theorem mLM_7_2 : mLMok (9, 66, 116) := mW_in (p := 450) rfl rfl
theorem mLM_7_3 : mLMok (9, 74, 125) := mW_in (p := 554) rfl rfl
theorem mLM_7_4 : mLMok (9, 78, 81) := mW_in (p := 566) rfl rfl
theorem mLM_7_5 : mLMok (9, 82, 6) := mW_in (p := 676) rfl rfl
theorem mLM_7_6 : mLMok (9, 103, 108) := mW_in (p := 688) rfl rfl
theorem mLM_7_7 : mLMok (9, 107, 110) := mW_in (p := 709) rfl rfl
theorem mLM_7_8 : mLMok (9, 111, 109) := mW_in (p := 717) rfl rfl
theorem mLM_7_9 : mLMok (9, 114, 7) := mW_in (p := 725) rfl rfl
theorem mLM_7_10 : mLMok (9, 121, 153) := mW_in (p := 772) rfl rfl
theorem mLM_7_11 : mLMok (9, 125, 154) := mW_in (p := 775) rfl rfl
theorem mLM_7_12 : mLMok (9, 137, 156) := mW_in (p := 782) rfl rfl
theorem mLM_7_13 : mLMok (9, 140, 157) := mW_in (p := 785) rfl rfl
theorem mLM_7_14 : mLMok (9, 143, 23) := mW_in (p := 788) rfl rfl
theorem mLM_7_15 : mLMok (9, 147, 22) := mW_in (p := 792) rfl rfl
def mLM_7 : List (Nat × Nat × Nat) := [(9, 22, 68), (9, 42, 5), (9, 66, 116), (9, 74, 125), (9, 78, 81), (9, 82, 6), (9, 103, 108), (9, 107, 110), (9, 111, 109), (9, 114, 7), (9, 121, 153), (9, 125, 154), (9, 137, 156), (9, 140, 157), (9, 143, 23), (9, 147, 22)]
theorem mLM_7_ok : ∀ e ∈ mLM_7, mLMok e := List.forall_mem_cons.mpr ⟨mLM_7_0, List.forall_mem_cons.mpr ⟨mLM_7_1, List.forall_mem_cons.mpr ⟨mLM_7_2, List.forall_mem_cons.mpr ⟨mLM_7_3, List.forall_mem_cons.mpr ⟨mLM_7_4, List.forall_mem_cons.mpr ⟨mLM_7_5, List.forall_mem_cons.mpr ⟨mLM_7_6, List.forall_mem_cons.mpr ⟨mLM_7_7, List.forall_mem_cons.mpr ⟨mLM_7_8, List.forall_mem_cons.mpr ⟨mLM_7_9, List.forall_mem_cons.mpr ⟨mLM_7_10, List.forall_mem_cons.mpr ⟨mLM_7_11, List.forall_mem_cons.mpr ⟨mLM_7_12, List.forall_mem_cons.mpr ⟨mLM_7_13, List.forall_mem_cons.mpr ⟨mLM_7_14, List.forall_mem_cons.mpr ⟨mLM_7_15, fun _ h => absurd h List.not_mem_nil⟩⟩⟩⟩⟩⟩⟩⟩⟩⟩⟩⟩⟩⟩⟩⟩
theorem mLM_8_0 : mLMok (9, 160, 118) := mW_in (p := 797) rfl rfl
theorem mLM_8_1 : mLMok (9, 163, 8) := mW_in (p := 1030) rfl rfl
theorem mLM_8_2 : mLMok (9, 167, 27) := mW_in (p := 1038) rfl rfl
theorem mLM_8_3 : mLMok (9, 170, 28) := mW_in (p := 1046) rfl rfl
theorem mLM_8_4 : mLMok (9, 178, 105) := mW_in (p := 1054) rfl rfl
theorem mLM_8_5 : mLMok (9, 186, 17) := mW_in (p := 1062) rfl rfl
theorem mLM_8_6 : mLMok (9, 189, 3) := mW_in (p := 1070) rfl rfl
theorem mLM_8_7 : mLMok (9, 190, 120) := mW_in (p := 1079) rfl rfl
theorem mLM_8_8 : mLMok (9, 194, 117) := mW_in (p := 1095) rfl rfl
theorem mLM_8_9 : mLMok (9, 197, 145) := mW_in (p := 1096) rfl rfl
theorem mLM_8_10 : mLMok (9, 200, 122) := mW_in (p := 1100) rfl rfl
theorem mLM_8_11 : mLMok (9, 207, 149) := mW_in (p := 1116) rfl rfl
theorem mLM_8_12 : mLMok (10, 106, 174) := mW_in (p := 1218) rfl rfl
theorem mLM_8_13 : mLMok (10, 109, 188) := mW_in (p := 1222) rfl rfl
theorem mLM_8_14 : mLMok (10, 118, 164) := mW_in (p := 1437) rfl rfl
theorem mLM_8_15 : mLMok (10, 141, 169) := mW_in (p := 1453) rfl rfl
def mLM_8 : List (Nat × Nat × Nat) := [(9, 160, 118), (9, 163, 8), (9, 167, 27), (9, 170, 28), (9, 178, 105), (9, 186, 17), (9, 189, 3), (9, 190, 120), (9, 194, 117), (9, 197, 145), (9, 200, 122), (9, 207, 149), (10, 106, 174), (10, 109, 188), (10, 118, 164), (10, 141, 169)]
theorem mLM_8_ok : ∀ e ∈ mLM_8, mLMok e := List.forall_mem_cons.mpr ⟨mLM_8_0, List.forall_mem_cons.mpr ⟨mLM_8_1, List.forall_mem_cons.mpr ⟨mLM_8_2, List.forall_mem_cons.mpr ⟨mLM_8_3, List.forall_mem_cons.mpr ⟨mLM_8_4, List.forall_mem_cons.mpr ⟨mLM_8_5, List.forall_mem_cons.mpr ⟨mLM_8_6, List.forall_mem_cons.mpr ⟨mLM_8_7, List.forall_mem_cons.mpr ⟨mLM_8_8, List.forall_mem_cons.mpr ⟨mLM_8_9, List.forall_mem_cons.mpr ⟨mLM_8_10, List.forall_mem_cons.mpr ⟨mLM_8_11, List.forall_mem_cons.mpr ⟨mLM_8_12, List.forall_mem_cons.mpr ⟨mLM_8_13, List.forall_mem_cons.mpr ⟨mLM_8_14, List.forall_mem_cons.mpr ⟨mLM_8_15, fun _ h => absurd h List.not_mem_nil⟩⟩⟩⟩⟩⟩⟩⟩⟩⟩⟩⟩⟩⟩⟩⟩
theorem mLM_9_0 : mLMok (10, 145, 167) := mW_in (p := 1456) rfl rfl
theorem mLM_9_1 : mLMok (10, 149, 168) := mW_in (p := 1460) rfl rfl
theorem mLM_9_2 : mLMok (10, 180, 172) := mW_in (p := 1479) rfl rfl
theorem mLM_9_3 : mLMok (10, 183, 162) := mW_in (p := 1247) rfl rfl
theorem mLM_9_4 : mLMok (10, 190, 170) := mW_in (p := 1449) rfl rfl
theorem mLM_9_5 : mLMok (10, 193, 173) := mW_in (p := 1471) rfl rfl
theorem mLM_9_6 : mLMok (10, 197, 175) := mW_in (p := 1491) rfl rfl
theorem mLM_9_7 : mLMok (10, 201, 179) := mW_in (p := 1511) rfl rfl
theorem mLM_9_8 : mLMok (10, 204, 176) := mW_in (p := 1495) rfl rfl
theorem mLM_9_9 : mLMok (10, 207, 171) := mW_in (p := 1483) rfl rfl
theorem mLM_9_10 : mLMok (10, 210, 182) := mW_in (p := 1487) rfl rfl
theorem mLM_9_11 : mLMok (10, 214, 183) := mW_in (p := 1475) rfl rfl
theorem mLM_9_12 : mLMok (10, 217, 177) := mW_in (p := 1499) rfl rfl
theorem mLM_9_13 : mLMok (10, 220, 178) := mW_in (p := 1503) rfl rfl
theorem mLM_9_14 : mLMok (10, 223, 180) := mW_in (p := 1507) rfl rfl
theorem mLM_9_15 : mLMok (10, 226, 181) := mW_in (p := 1515) rfl rfl
def mLM_9 : List (Nat × Nat × Nat) := [(10, 145, 167), (10, 149, 168), (10, 180, 172), (10, 183, 162), (10, 190, 170), (10, 193, 173), (10, 197, 175), (10, 201, 179), (10, 204, 176), (10, 207, 171), (10, 210, 182), (10, 214, 183), (10, 217, 177), (10, 220, 178), (10, 223, 180), (10, 226, 181)]
theorem mLM_9_ok : ∀ e ∈ mLM_9, mLMok e := List.forall_mem_cons.mpr ⟨mLM_9_0, List.forall_mem_cons.mpr ⟨mLM_9_1, List.forall_mem_cons.mpr ⟨mLM_9_2, List.forall_mem_cons.mpr ⟨mLM_9_3, List.forall_mem_cons.mpr ⟨mLM_9_4, List.forall_mem_cons.mpr ⟨mLM_9_5, List.forall_mem_cons.mpr ⟨mLM_9_6, List.forall_mem_cons.mpr ⟨mLM_9_7, List.forall_mem_cons.mpr ⟨mLM_9_8, List.forall_mem_cons.mpr ⟨mLM_9_9, List.forall_mem_cons.mpr ⟨mLM_9_10, List.forall_mem_cons.mpr ⟨mLM_9_11, List.forall_mem_cons.mpr ⟨mLM_9_12, List.forall_mem_cons.mpr ⟨mLM_9_13, List.forall_mem_cons.mpr ⟨mLM_9_14, List.forall_mem_cons.mpr ⟨mLM_9_15, fun _ h => absurd h List.not_mem_nil⟩⟩⟩⟩⟩⟩⟩⟩⟩⟩⟩⟩⟩⟩⟩⟩
theorem mLM_10_0 : mLMok (10, 229, 184) := mW_in (p := 1467) rfl rfl
theorem mLM_10_1 : mLMok (10, 232, 186) := mW_in (p := 1519) rfl rfl
theorem mLM_10_2 : mLMok (10, 235, 185) := mW_in (p := 1463) rfl rfl
theorem mLM_10_3 : mLMok (10, 247, 163) := mW_in (p := 1226) rfl rfl
theorem mLM_10_4 : mLMok (10, 253, 195) := mW_in (p := 1229) rfl rfl
theorem mLM_10_5 : mLMok (10, 257, 197) := mW_in (p := 1240) rfl rfl
theorem mLM_10_6 : mLMok (10, 266, 191) := mW_in (p := 1233) rfl rfl
theorem mLM_10_7 : mLMok (10, 269, 193) := mW_in (p := 1236) rfl rfl
theorem mLM_10_8 : mLMok (10, 273, 189) := mW_in (p := 1250) rfl rfl
theorem mLM_10_9 : mLMok (10, 276, 192) := mW_in (p := 1244) rfl rfl
theorem mLM_10_10 : mLMok (10, 279, 190) := mW_in (p := 1254) rfl rfl
theorem mLM_10_11 : mLMok (10, 282, 194) := mW_in (p := 1618) rfl rfl
theorem mLM_10_12 : mLMok (10, 285, 199) := mW_in (p := 1622) rfl rfl
theorem mLM_10_13 : mLMok (10, 288, 200) := mW_in (p := 1610) rfl rfl
theorem mLM_10_14 : mLMok (10, 291, 198) := mW_in (p := 1614) rfl rfl
theorem mLM_10_15 : mLMok (10, 294, 201) := mW_in (p := 1626) rfl rfl
def mLM_10 : List (Nat × Nat × Nat) := [(10, 229, 184), (10, 232, 186), (10, 235, 185), (10, 247, 163), (10, 253, 195), (10, 257, 197), (10, 266, 191), (10, 269, 193), (10, 273, 189), (10, 276, 192), (10, 279, 190), (10, 282, 194), (10, 285, 199), (10, 288, 200), (10, 291, 198), (10, 294, 201)]
theorem mLM_10_ok : ∀ e ∈ mLM_10, mLMok e := List.forall_mem_cons.mpr ⟨mLM_10_0, List.forall_mem_cons.mpr ⟨mLM_10_1, List.forall_mem_cons.mpr ⟨mLM_10_2, List.forall_mem_cons.mpr ⟨mLM_10_3, List.forall_mem_cons.mpr ⟨mLM_10_4, List.forall_mem_cons.mpr ⟨mLM_10_5, List.forall_mem_cons.mpr ⟨mLM_10_6, List.forall_mem_cons.mpr ⟨mLM_10_7, List.forall_mem_cons.mpr ⟨mLM_10_8, List.forall_mem_cons.mpr ⟨mLM_10_9, List.forall_mem_cons.mpr ⟨mLM_10_10, List.forall_mem_cons.mpr ⟨mLM_10_11, List.forall_mem_cons.mpr ⟨mLM_10_12, List.forall_mem_cons.mpr ⟨mLM_10_13, List.forall_mem_cons.mpr ⟨mLM_10_14, List.forall_mem_cons.mpr ⟨mLM_10_15, fun _ h => absurd h List.not_mem_nil⟩⟩⟩⟩⟩⟩⟩⟩⟩⟩⟩⟩⟩⟩⟩⟩
theorem mLM_11_0 : mLMok (10, 297, 212) := mW_in (p := 1630) rfl rfl
theorem mLM_11_1 : mLMok (10, 300, 203) := mW_in (p := 1734) rfl rfl
theorem mLM_11_2 : mLMok (10, 303, 204) := mW_in (p := 1694) rfl rfl
theorem mLM_11_3 : mLMok (10, 306, 213) := mW_in (p := 1634) rfl rfl
theorem mLM_11_4 : mLMok (10, 309, 214) := mW_in (p := 1654) rfl rfl
theorem mLM_11_5 : mLMok (10, 312, 218) := mW_in (p := 1678) rfl rfl
theorem mLM_11_6 : mLMok (10, 316, 222) := mW_in (p := 1706) rfl rfl
theorem mLM_11_7 : mLMok (10, 319, 208) := mW_in (p := 1638) rfl rfl
theorem mLM_11_8 : mLMok (10, 322, 209) := mW_in (p := 1642) rfl rfl
theorem mLM_11_9 : mLMok (10, 325, 210) := mW_in (p := 1646) rfl rfl
theorem mLM_11_10 : mLMok (10, 328, 196) := mW_in (p := 1650) rfl rfl
theorem mLM_11_11 : mLMok (10, 331, 211) := mW_in (p := 1658) rfl rfl
theorem mLM_11_12 : mLMok (10, 334, 215) := mW_in (p := 1662) rfl rfl
theorem mLM_11_13 : mLMok (10, 336, 216) := mW_in (p := 1666) rfl rfl
theorem mLM_11_14 : mLMok (10, 339, 217) := mW_in (p := 1670) rfl rfl
theorem mLM_11_15 : mLMok (10, 342, 205) := mW_in (p := 1674) rfl rfl
def mLM_11 : List (Nat × Nat × Nat) := [(10, 297, 212), (10, 300, 203), (10, 303, 204), (10, 306, 213), (10, 309, 214), (10, 312, 218), (10, 316, 222), (10, 319, 208), (10, 322, 209), (10, 325, 210), (10, 328, 196), (10, 331, 211), (10, 334, 215), (10, 336, 216), (10, 339, 217), (10, 342, 205)]
theorem mLM_11_ok : ∀ e ∈ mLM_11, mLMok e := List.forall_mem_cons.mpr ⟨mLM_11_0, List.forall_mem_cons.mpr ⟨mLM_11_1, List.forall_mem_cons.mpr ⟨mLM_11_2, List.forall_mem_cons.mpr ⟨mLM_11_3, List.forall_mem_cons.mpr ⟨mLM_11_4, List.forall_mem_cons.mpr ⟨mLM_11_5, List.forall_mem_cons.mpr ⟨mLM_11_6, List.forall_mem_cons.mpr ⟨mLM_11_7, List.forall_mem_cons.mpr ⟨mLM_11_8, List.forall_mem_cons.mpr ⟨mLM_11_9, List.forall_mem_cons.mpr ⟨mLM_11_10, List.forall_mem_cons.mpr ⟨mLM_11_11, List.forall_mem_cons.mpr ⟨mLM_11_12, List.forall_mem_cons.mpr ⟨mLM_11_13, List.forall_mem_cons.mpr ⟨mLM_11_14, List.forall_mem_cons.mpr ⟨mLM_11_15, fun _ h => absurd h List.not_mem_nil⟩⟩⟩⟩⟩⟩⟩⟩⟩⟩⟩⟩⟩⟩⟩⟩
theorem mLM_12_0 : mLMok (10, 345, 221) := mW_in (p := 1682) rfl rfl
theorem mLM_12_1 : mLMok (10, 349, 219) := mW_in (p := 1686) rfl rfl
theorem mLM_12_2 : mLMok (10, 352, 206) := mW_in (p := 1690) rfl rfl
theorem mLM_12_3 : mLMok (10, 355, 220) := mW_in (p := 1698) rfl rfl
theorem mLM_12_4 : mLMok (10, 359, 207) := mW_in (p := 1702) rfl rfl
theorem mLM_12_5 : mLMok (10, 363, 223) := mW_in (p := 1710) rfl rfl
theorem mLM_12_6 : mLMok (10, 366, 225) := mW_in (p := 1714) rfl rfl
theorem mLM_12_7 : mLMok (10, 369, 226) := mW_in (p := 1718) rfl rfl
theorem mLM_12_8 : mLMok (10, 372, 228) := mW_in (p := 1722) rfl rfl
theorem mLM_12_9 : mLMok (10, 375, 224) := mW_in (p := 1726) rfl rfl
theorem mLM_12_10 : mLMok (10, 378, 227) := mW_in (p := 1730) rfl rfl
theorem mLM_12_11 : mLMok (10, 381, 229) := mW_in (p := 1742) rfl rfl
theorem mLM_12_12 : mLMok (10, 384, 230) := mW_in (p := 1746) rfl rfl
theorem mLM_12_13 : mLMok (10, 387, 231) := mW_in (p := 1750) rfl rfl
theorem mLM_12_14 : mLMok (10, 390, 233) := mW_in (p := 1754) rfl rfl
theorem mLM_12_15 : mLMok (10, 393, 234) := mW_in (p := 1758) rfl rfl
def mLM_12 : List (Nat × Nat × Nat) := [(10, 345, 221), (10, 349, 219), (10, 352, 206), (10, 355, 220), (10, 359, 207), (10, 363, 223), (10, 366, 225), (10, 369, 226), (10, 372, 228), (10, 375, 224), (10, 378, 227), (10, 381, 229), (10, 384, 230), (10, 387, 231), (10, 390, 233), (10, 393, 234)]
theorem mLM_12_ok : ∀ e ∈ mLM_12, mLMok e := List.forall_mem_cons.mpr ⟨mLM_12_0, List.forall_mem_cons.mpr ⟨mLM_12_1, List.forall_mem_cons.mpr ⟨mLM_12_2, List.forall_mem_cons.mpr ⟨mLM_12_3, List.forall_mem_cons.mpr ⟨mLM_12_4, List.forall_mem_cons.mpr ⟨mLM_12_5, List.forall_mem_cons.mpr ⟨mLM_12_6, List.forall_mem_cons.mpr ⟨mLM_12_7, List.forall_mem_cons.mpr ⟨mLM_12_8, List.forall_mem_cons.mpr ⟨mLM_12_9, List.forall_mem_cons.mpr ⟨mLM_12_10, List.forall_mem_cons.mpr ⟨mLM_12_11, List.forall_mem_cons.mpr ⟨mLM_12_12, List.forall_mem_cons.mpr ⟨mLM_12_13, List.forall_mem_cons.mpr ⟨mLM_12_14, List.forall_mem_cons.mpr ⟨mLM_12_15, fun _ h => absurd h List.not_mem_nil⟩⟩⟩⟩⟩⟩⟩⟩⟩⟩⟩⟩⟩⟩⟩⟩
theorem mLM_13_0 : mLMok (10, 396, 202) := mW_in (p := 1606) rfl rfl
theorem mLM_13_1 : mLMok (10, 399, 232) := mW_in (p := 1738) rfl rfl
theorem mLM_13_2 : mLMok (10, 402, 240) := mW_in (p := 1563) rfl rfl
theorem mLM_13_3 : mLMok (10, 404, 238) := mW_in (p := 1555) rfl rfl
theorem mLM_13_4 : mLMok (10, 407, 241) := mW_in (p := 1551) rfl rfl
theorem mLM_13_5 : mLMok (10, 410, 239) := mW_in (p := 1559) rfl rfl
theorem mLM_13_6 : mLMok (10, 413, 242) := mW_in (p := 1567) rfl rfl
theorem mLM_13_7 : mLMok (10, 417, 245) := mW_in (p := 1583) rfl rfl
theorem mLM_13_8 : mLMok (10, 420, 248) := mW_in (p := 1591) rfl rfl
theorem mLM_13_9 : mLMok (10, 423, 235) := mW_in (p := 1602) rfl rfl
theorem mLM_13_10 : mLMok (10, 426, 258) := mW_in (p := 1806) rfl rfl
theorem mLM_13_11 : mLMok (10, 429, 260) := mW_in (p := 1814) rfl rfl
theorem mLM_13_12 : mLMok (10, 432, 262) := mW_in (p := 1818) rfl rfl
theorem mLM_13_13 : mLMok (10, 435, 261) := mW_in (p := 1822) rfl rfl
def mLM_13 : List (Nat × Nat × Nat) := [(10, 396, 202), (10, 399, 232), (10, 402, 240), (10, 404, 238), (10, 407, 241), (10, 410, 239), (10, 413, 242), (10, 417, 245), (10, 420, 248), (10, 423, 235), (10, 426, 258), (10, 429, 260), (10, 432, 262), (10, 435, 261)]
theorem mLM_13_ok : ∀ e ∈ mLM_13, mLMok e := List.forall_mem_cons.mpr ⟨mLM_13_0, List.forall_mem_cons.mpr ⟨mLM_13_1, List.forall_mem_cons.mpr ⟨mLM_13_2, List.forall_mem_cons.mpr ⟨mLM_13_3, List.forall_mem_cons.mpr ⟨mLM_13_4, List.forall_mem_cons.mpr ⟨mLM_13_5, List.forall_mem_cons.mpr ⟨mLM_13_6, List.forall_mem_cons.mpr ⟨mLM_13_7, List.forall_mem_cons.mpr ⟨mLM_13_8, List.forall_mem_cons.mpr ⟨mLM_13_9, List.forall_mem_cons.mpr ⟨mLM_13_10, List.forall_mem_cons.mpr ⟨mLM_13_11, List.forall_mem_cons.mpr ⟨mLM_13_12, List.forall_mem_cons.mpr ⟨mLM_13_13, fun _ h => absurd h List.not_mem_nil⟩⟩⟩⟩⟩⟩⟩⟩⟩⟩⟩⟩⟩⟩
def mLM (q : Nat) : Option (Nat × Nat × Nat) := (([mLM_0, mLM_1, mLM_2, mLM_3, mLM_4, mLM_5, mLM_6, mLM_7, mLM_8, mLM_9, mLM_10, mLM_11, mLM_12, mLM_13] : List (List (Nat × Nat × Nat))).getD (q / 16) [])[q % 16]?
theorem mLM_ok {q : Nat} {e : Nat × Nat × Nat} (h : mLM q = some e) : mLMok e := by
  have hm := List.mem_of_getElem? h
  rw [List.getD_eq_getElem?_getD] at hm
  revert hm
  generalize q / 16 = k
  match k with
  | 0 => exact fun h => mLM_0_ok e h
  | 1 => exact fun h => mLM_1_ok e h
  | 2 => exact fun h => mLM_2_ok e h
  | 3 => exact fun h => mLM_3_ok e h
  | 4 => exact fun h => mLM_4_ok e h
  | 5 => exact fun h => mLM_5_ok e h
  | 6 => exact fun h => mLM_6_ok e h
  | 7 => exact fun h => mLM_7_ok e h
  | 8 => exact fun h => mLM_8_ok e h
  | 9 => exact fun h => mLM_9_ok e h
  | 10 => exact fun h => mLM_10_ok e h
  | 11 => exact fun h => mLM_11_ok e h
  | 12 => exact fun h => mLM_12_ok e h
  | 13 => exact fun h => mLM_13_ok e h
  | k + 14 => exact fun h => absurd h List.not_mem_nil
theorem mLN_0_0 : mLNok (1, 17, 115) := List.mem_of_getElem? (i := 4) rfl
theorem mLN_0_1 : mLNok (3, 23, 100) := List.mem_of_getElem? (i := 2) rfl
theorem mLN_0_2 : mLNok (3, 30, 9) := List.mem_of_getElem? (i := 3) rfl
theorem mLN_0_3 : mLNok (3, 101, 158) := List.mem_of_getElem? (i := 6) rfl
theorem mLN_0_4 : mLNok (3, 127, 159) := List.mem_of_getElem? (i := 10) rfl
theorem mLN_0_5 : mLNok (3, 176, 156) := List.mem_of_getElem? (i := 8) rfl
theorem mLN_0_6 : mLNok (3, 186, 154) := List.mem_of_getElem? (i := 7) rfl
theorem mLN_0_7 : mLNok (3, 221, 155) := List.mem_of_getElem? (i := 9) rfl
theorem mLN_0_8 : mLNok (6, 30, 159) := List.mem_of_getElem? (i := 11) rfl
theorem mLN_0_9 : mLNok (8, 9, 0) := List.mem_of_getElem? (i := 1) rfl
theorem mLN_0_10 : mLNok (9, 32, 115) := List.mem_of_getElem? (i := 0) rfl
theorem mLN_0_11 : mLNok (9, 57, 107) := List.mem_of_getElem? (i := 5) rfl
def mLN_0 : List (Nat × Nat × Nat) := [(1, 17, 115), (3, 23, 100), (3, 30, 9), (3, 101, 158), (3, 127, 159), (3, 176, 156), (3, 186, 154), (3, 221, 155), (6, 30, 159), (8, 9, 0), (9, 32, 115), (9, 57, 107)]
theorem mLN_0_ok : ∀ e ∈ mLN_0, mLNok e := List.forall_mem_cons.mpr ⟨mLN_0_0, List.forall_mem_cons.mpr ⟨mLN_0_1, List.forall_mem_cons.mpr ⟨mLN_0_2, List.forall_mem_cons.mpr ⟨mLN_0_3, List.forall_mem_cons.mpr ⟨mLN_0_4, List.forall_mem_cons.mpr ⟨mLN_0_5, List.forall_mem_cons.mpr ⟨mLN_0_6, List.forall_mem_cons.mpr ⟨mLN_0_7, List.forall_mem_cons.mpr ⟨mLN_0_8, List.forall_mem_cons.mpr ⟨mLN_0_9, List.forall_mem_cons.mpr ⟨mLN_0_10, List.forall_mem_cons.mpr ⟨mLN_0_11, fun _ h => absurd h List.not_mem_nil⟩⟩⟩⟩⟩⟩⟩⟩⟩⟩⟩⟩
def mLN (q : Nat) : Option (Nat × Nat × Nat) := (([mLN_0] : List (List (Nat × Nat × Nat))).getD (q / 16) [])[q % 16]?
theorem mLN_ok {q : Nat} {e : Nat × Nat × Nat} (h : mLN q = some e) : mLNok e := by
  have hm := List.mem_of_getElem? h
  rw [List.getD_eq_getElem?_getD] at hm
  revert hm
  generalize q / 16 = k
  match k with
  | 0 => exact fun h => mLN_0_ok e h
  | k + 1 => exact fun h => absurd h List.not_mem_nil
theorem mLX_0_0 : mLXok (0, 3, 2) := mW_in (p := 268) rfl rfl
theorem mLX_0_1 : mLXok (0, 22, 1) := mW_in (p := 1074) rfl rfl
theorem mLX_0_2 : mLXok (0, 28, 0) := mW_in (p := 737) rfl rfl
theorem mLX_0_3 : mLXok (1, 3, 2) := mW_in (p := 413) rfl rfl
theorem mLX_0_4 : mLXok (1, 29, 1) := mW_in (p := 751) rfl rfl
theorem mLX_0_5 : mLXok (2, 3, 2) := mW_in (p := 319) rfl rfl
theorem mLX_0_6 : mLXok (3, 3, 2) := mW_in (p := 288) rfl rfl
theorem mLX_0_7 : mLXok (3, 52, 0) := mW_in (p := 463) rfl rfl
theorem mLX_0_8 : mLXok (4, 3, 2) := mW_in (p := 42) rfl rfl
theorem mLX_0_9 : mLXok (5, 5, 2) := mW_in (p := 36) rfl rfl
theorem mLX_0_10 : mLXok (5, 49, 3) := mW_in (p := 141) rfl rfl
theorem mLX_0_11 : mLXok (5, 55, 4) := mW_in (p := 151) rfl rfl
theorem mLX_0_12 : mLXok (5, 63, 1) := mW_in (p := 570) rfl rfl
theorem mLX_0_13 : mLXok (6, 3, 2) := mW_in (p := 294) rfl rfl
theorem mLX_0_14 : mLXok (6, 34, 0) := mW_in (p := 746) rfl rfl
theorem mLX_0_15 : mLXok (7, 3, 2) := mW_in (p := 433) rfl rfl
def mLX_0 : List (Nat × Nat × Nat) := [(0, 3, 2), (0, 22, 1), (0, 28, 0), (1, 3, 2), (1, 29, 1), (2, 3, 2), (3, 3, 2), (3, 52, 0), (4, 3, 2), (5, 5, 2), (5, 49, 3), (5, 55, 4), (5, 63, 1), (6, 3, 2), (6, 34, 0), (7, 3, 2)]
theorem mLX_0_ok : ∀ e ∈ mLX_0, mLXok e := List.forall_mem_cons.mpr ⟨mLX_0_0, List.forall_mem_cons.mpr ⟨mLX_0_1, List.forall_mem_cons.mpr ⟨mLX_0_2, List.forall_mem_cons.mpr ⟨mLX_0_3, List.forall_mem_cons.mpr ⟨mLX_0_4, List.forall_mem_cons.mpr ⟨mLX_0_5, List.forall_mem_cons.mpr ⟨mLX_0_6, List.forall_mem_cons.mpr ⟨mLX_0_7, List.forall_mem_cons.mpr ⟨mLX_0_8, List.forall_mem_cons.mpr ⟨mLX_0_9, List.forall_mem_cons.mpr ⟨mLX_0_10, List.forall_mem_cons.mpr ⟨mLX_0_11, List.forall_mem_cons.mpr ⟨mLX_0_12, List.forall_mem_cons.mpr ⟨mLX_0_13, List.forall_mem_cons.mpr ⟨mLX_0_14, List.forall_mem_cons.mpr ⟨mLX_0_15, fun _ h => absurd h List.not_mem_nil⟩⟩⟩⟩⟩⟩⟩⟩⟩⟩⟩⟩⟩⟩⟩⟩
theorem mLX_1_0 : mLXok (7, 40, 0) := mW_in (p := 708) rfl rfl
theorem mLX_1_1 : mLXok (8, 1, 2) := mW_in (p := 262) rfl rfl
theorem mLX_1_2 : mLXok (9, 1, 2) := mW_in (p := 28) rfl rfl
theorem mLX_1_3 : mLXok (10, 1, 2) := mW_in (p := 1213) rfl rfl
theorem mLX_1_4 : mLXok (10, 96, 4) := mW_in (p := 1215) rfl rfl
def mLX_1 : List (Nat × Nat × Nat) := [(7, 40, 0), (8, 1, 2), (9, 1, 2), (10, 1, 2), (10, 96, 4)]
theorem mLX_1_ok : ∀ e ∈ mLX_1, mLXok e := List.forall_mem_cons.mpr ⟨mLX_1_0, List.forall_mem_cons.mpr ⟨mLX_1_1, List.forall_mem_cons.mpr ⟨mLX_1_2, List.forall_mem_cons.mpr ⟨mLX_1_3, List.forall_mem_cons.mpr ⟨mLX_1_4, fun _ h => absurd h List.not_mem_nil⟩⟩⟩⟩⟩
def mLX (q : Nat) : Option (Nat × Nat × Nat) := (([mLX_0, mLX_1] : List (List (Nat × Nat × Nat))).getD (q / 16) [])[q % 16]?
theorem mLX_ok {q : Nat} {e : Nat × Nat × Nat} (h : mLX q = some e) : mLXok e := by
  have hm := List.mem_of_getElem? h
  rw [List.getD_eq_getElem?_getD] at hm
  revert hm
  generalize q / 16 = k
  match k with
  | 0 => exact fun h => mLX_0_ok e h
  | 1 => exact fun h => mLX_1_ok e h
  | k + 2 => exact fun h => absurd h List.not_mem_nil
theorem mLC_0_0 : mLCok (1, 11, 8) := ⟨_, rfl, mW_in (p := 414) rfl rfl⟩
theorem mLC_0_1 : mLCok (3, 21, 6) := ⟨_, rfl, mW_in (p := 289) rfl rfl⟩
theorem mLC_0_2 : mLCok (3, 28, 2) := ⟨_, rfl, mW_in (p := 313) rfl rfl⟩
theorem mLC_0_3 : mLCok (5, 1, 4) := ⟨_, rfl, mW_in (p := 37) rfl rfl⟩
theorem mLC_0_4 : mLCok (8, 7, 0) := ⟨_, rfl, mW_in (p := 263) rfl rfl⟩
theorem mLC_0_5 : mLCok (8, 16, 3) := ⟨_, rfl, mW_in (p := 282) rfl rfl⟩
theorem mLC_0_6 : mLCok (9, 13, 5) := ⟨_, rfl, mW_in (p := 31) rfl rfl⟩
theorem mLC_0_7 : mLCok (9, 20, 4) := ⟨_, rfl, mW_in (p := 239) rfl rfl⟩
theorem mLC_0_8 : mLCok (9, 30, 8) := ⟨_, rfl, mW_in (p := 257) rfl rfl⟩
theorem mLC_0_9 : mLCok (9, 40, 1) := ⟨_, rfl, mW_in (p := 408) rfl rfl⟩
theorem mLC_0_10 : mLCok (9, 55, 7) := ⟨_, rfl, mW_in (p := 428) rfl rfl⟩
def mLC_0 : List (Nat × Nat × Nat) := [(1, 11, 8), (3, 21, 6), (3, 28, 2), (5, 1, 4), (8, 7, 0), (8, 16, 3), (9, 13, 5), (9, 20, 4), (9, 30, 8), (9, 40, 1), (9, 55, 7)]
theorem mLC_0_ok : ∀ e ∈ mLC_0, mLCok e := List.forall_mem_cons.mpr ⟨mLC_0_0, List.forall_mem_cons.mpr ⟨mLC_0_1, List.forall_mem_cons.mpr ⟨mLC_0_2, List.forall_mem_cons.mpr ⟨mLC_0_3, List.forall_mem_cons.mpr ⟨mLC_0_4, List.forall_mem_cons.mpr ⟨mLC_0_5, List.forall_mem_cons.mpr ⟨mLC_0_6, List.forall_mem_cons.mpr ⟨mLC_0_7, List.forall_mem_cons.mpr ⟨mLC_0_8, List.forall_mem_cons.mpr ⟨mLC_0_9, List.forall_mem_cons.mpr ⟨mLC_0_10, fun _ h => absurd h List.not_mem_nil⟩⟩⟩⟩⟩⟩⟩⟩⟩⟩⟩
def mLC (q : Nat) : Option (Nat × Nat × Nat) := (([mLC_0] : List (List (Nat × Nat × Nat))).getD (q / 16) [])[q % 16]?
theorem mLC_ok {q : Nat} {e : Nat × Nat × Nat} (h : mLC q = some e) : mLCok e := by
  have hm := List.mem_of_getElem? h
  rw [List.getD_eq_getElem?_getD] at hm
  revert hm
  generalize q / 16 = k
  match k with
  | 0 => exact fun h => mLC_0_ok e h
  | k + 1 => exact fun h => absurd h List.not_mem_nil
theorem mLK_0_0 : mLKok (10, 102, 27) := by
  unfold mLKok
  rw [show ((27 : Int32).toInt64) = (27 : Int64) by decide +kernel]
  exact mW_in (p := 1216) rfl rfl
theorem mLK_0_1 : mLKok (10, 104, 96) := by
  unfold mLKok
  rw [show ((96 : Int32).toInt64) = (96 : Int64) by decide +kernel]
  exact mW_in (p := 1217) rfl rfl
def mLK_0 : List (Nat × Nat × Int32) := [(10, 102, 27), (10, 104, 96)]
theorem mLK_0_ok : ∀ e ∈ mLK_0, mLKok e := List.forall_mem_cons.mpr ⟨mLK_0_0, List.forall_mem_cons.mpr ⟨mLK_0_1, fun _ h => absurd h List.not_mem_nil⟩⟩
def mLK (q : Nat) : Option (Nat × Nat × Int32) := (([mLK_0] : List (List (Nat × Nat × Int32))).getD (q / 16) [])[q % 16]?
theorem mLK_ok {q : Nat} {e : Nat × Nat × Int32} (h : mLK q = some e) : mLKok e := by
  have hm := List.mem_of_getElem? h
  rw [List.getD_eq_getElem?_getD] at hm
  revert hm
  generalize q / 16 = k
  match k with
  | 0 => exact fun h => mLK_0_ok e h
  | k + 1 => exact fun h => absurd h List.not_mem_nil
