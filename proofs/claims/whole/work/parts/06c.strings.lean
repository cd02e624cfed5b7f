/-! TEXTS: literals stand behind all numbers; their length and signs -/
def mSo : List (String × Nat × String) := [("MeetingMachines$Reader", 35, "ldc ldl stl ldlp adc eqc ajw j cj ldpi "), ("MeetingMachines$Reader", 41, "add sub mul gt rev dup load store "), ("MeetingMachines$Reader", 43, "startp endp stopp runp ldpri clock tin in out "), ("MeetingMachines$Reader", 45, "alt altwt altend enbc disc enbs diss talt taltwt enbt dist halt "), ("MeetingMachines$Reader", 47, "slice word join run "), ("MeetingMachinesModel", 90, "ldc ldl stl ldlp adc eqc ajw j cj ldpi add sub mul gt rev dup load store startp endp stopp runp ldpri clock tin in out alt altwt altend enbc disc enbs diss talt taltwt enbt dist halt slice word join run ")]
theorem mSl_ok : ∀ i, i < 6 → (mSb.getD i []).length = mSl.getD i 0 ∧ mSl.getD i 0 < 1000 ∧ ∀ b ∈ mSb.getD i [], b &&& 255 = b := by decide +kernel
theorem mSc_255 {i k : Nat} (hi : i < 6) (hk : k < mSl.getD i 0) : mSc i k &&& 255 = mSc i k := by
  obtain ⟨h1, -, h3⟩ := mSl_ok i hi
  have h4 : k < (mSb.getD i []).length := by rw [h1]; exact hk
  have h5 : mSc i k = (mSb.getD i [])[k] := by unfold mSc; rw [List.getD_eq_getElem?_getD, List.getElem?_eq_getElem h4]; rfl
  rw [h5]
  exact h3 _ (List.getElem_mem h4)
theorem mSc_ok {i k : Nat} (hi : i < 6) (hk : k < mSl.getD i 0) : ((mSc i k &&& 255).toUInt32 % 65536).toInt32 = mSc i k := (sc_c2 _).trans (mSc_255 hi hk)
theorem mSc_nar {i k : Nat} (hi : i < 6) (hk : k < mSl.getD i 0) : narrow .char (.int (mSc i k)) = .int (mSc i k) := by
  have h := sc_nar (mSc i k)
  rw [mSc_255 hi hk] at h
  exact h
def mSs (ad : Nat → Nat) (A : Nat → Prop) (U : State) : Prop := vk_S 6 mSl mSb (fun i => ad (1000000 + i)) (fun i => ad (1000010 + i)) A U U.heap ∧ (∀ (i : Nat) (r : String × Nat × String), mSo[i]? = some r → vk_R r.1 r.2.1 r.2.2 (ad (1000000 + i)) U) ∧ va_Z "java/lang/String" "COMPACT_STRINGS" "Z" (.int 1) A U U.heap ∧ va_Zq "jdk/internal/util/Preconditions" "SIOOBE_FORMATTER" "Ljava/util/function/BiFunction;" A U U.heap
theorem mSs_to {ad0 ad : Nat → Nat} {A A1 : Nat → Prop} {s U : State} {locs : List Loc} (h : mSs ad0 A s) (hW : s.WarmedH U.vm) (hS : va_S A s.heap U.heap locs) (hsub : ∀ q, A1 q → A q) (had : ∀ o, 1000000 ≤ o → ad o = ad0 o) : mSs ad A1 U := by
  obtain ⟨h1, h2, h3, h4⟩ := h
  have e1 : (fun i => ad (1000000 + i)) = (fun i => ad0 (1000000 + i)) := funext fun i => had _ (by omega)
  have e2 : (fun i => ad (1000010 + i)) = (fun i => ad0 (1000010 + i)) := funext fun i => had _ (by omega)
  refine ⟨?_, fun i r hi => ?_, ((h3.moved hW.alike).kept hS.2.1).narrow hsub, ((h4.moved hW.alike).kept hS.2.1).narrow hsub⟩
  · rw [e1, e2]
    exact ((h1.moved hW.alike).kept hS.2.1).narrow hsub
  · rw [had _ (by omega)]
    exact vk_R.warm hW (h2 i r hi)
theorem mSs_same {ad : Nat → Nat} {A : Nat → Prop} {u U : State} (hv : U.vm = u.vm) (hh : U.heap = u.heap) (h : mSs ad A u) : mSs ad A U := by
  obtain ⟨h1, h2, h3, h4⟩ := h
  have ha : u.vm.Alike U.vm := by rw [hv]; exact Vm.Alike.refl _
  rw [mSs, hh]
  exact ⟨h1.moved ha, fun i r hi => vk_R.same hv (h2 i r hi), h3.moved ha, h4.moved ha⟩
def mJw (y : MethodName) (code : ByteArray) (n : Nat) (ret : Option FieldType) : List Cond := .code y code n ret :: mWT
theorem mJw_good {y y2 : MethodName} {code code2 : ByteArray} {n n2 : Nat} {ret ret2 : Option FieldType} (h : Cond.code y2 code2 n2 ret2 ∈ mWT) : GoodIn (mJw y code n ret) (mJw y2 code2 n2 ret2) := by
  intro w hw
  rcases List.mem_cons.mp hw with rfl | hw
  · exact ⟨List.mem_cons_of_mem _ h, good_of_word (mWT_good h)⟩
  · exact ⟨List.mem_cons_of_mem _ hw, good_of_word (mWT_good hw)⟩
def mJr (k : Nat) : Room := { frames := k, cells := 0, slots := 0, locals := 30 * k }
/-- a method that reads alone -/
abbrev mJm (l : Launch) (y : MethodName) (code : ByteArray) (n : Nat) (ret : Option FieldType) (k : Nat) (av : List Value) (ad : Nat → Nat) (A : Nat → Prop) (r : Int32) : Prop := Met l y (mJw y code n ret) (mJr k) (va_Pc av (fun U => mSs ad A U)) (va_Qi (S := Unit) (fun x _ => x = r) (fun _ _ => True) (fun _ => False)) 0 0 (fun _ => False)
abbrev mJv (l : Launch) (y : MethodName) (code : ByteArray) (n : Nat) (ret : Option FieldType) (k : Nat) (av : List Value) (ad : Nat → Nat) (A : Nat → Prop) : Prop := Met l y (mJw y code n ret) (mJr k) (va_Pc av (fun U => mSs ad A U)) (va_Qv (S := Unit) (fun _ => True) (fun _ _ => True) (fun _ => False)) 0 0 (fun _ => False)
theorem mSs_blind {ad : Nat → Nat} {A : Nat → Prop} {av : List Value} : FrameBlind (va_Pc av (fun U => mSs ad A U)) := fun _ _ _ _ q => ⟨q.1, mSs_same rfl rfl q.2⟩
theorem dS_coder_0 : decode cJ0_coder_7d493 0 = .ok (.getstatic 38, 3) := by decide +kernel
theorem dS_coder_3 : decode cJ0_coder_7d493 3 = .ok (.ifCond .eq 10, 3) := by decide +kernel
theorem dS_coder_6 : decode cJ0_coder_7d493 6 = .ok (.aload_n 0, 1) := by decide +kernel
theorem dS_coder_7 : decode cJ0_coder_7d493 7 = .ok (.getfield 15, 3) := by decide +kernel
theorem dS_coder_10 : decode cJ0_coder_7d493 10 = .ok (.goto 4, 3) := by decide +kernel
theorem dS_coder_14 : decode cJ0_coder_7d493 14 = .ok (.ireturn, 1) := by decide +kernel
theorem dS_isLatin1_0 : decode cJ0_isLatin1_aae02 0 = .ok (.getstatic 38, 3) := by decide +kernel
theorem dS_isLatin1_3 : decode cJ0_isLatin1_aae02 3 = .ok (.ifCond .eq 14, 3) := by decide +kernel
theorem dS_isLatin1_6 : decode cJ0_isLatin1_aae02 6 = .ok (.aload_n 0, 1) := by decide +kernel
theorem dS_isLatin1_7 : decode cJ0_isLatin1_aae02 7 = .ok (.getfield 15, 3) := by decide +kernel
theorem dS_isLatin1_10 : decode cJ0_isLatin1_aae02 10 = .ok (.ifCond .ne 7, 3) := by decide +kernel
theorem dS_isLatin1_13 : decode cJ0_isLatin1_aae02 13 = .ok (.iconst 1, 1) := by decide +kernel
theorem dS_isLatin1_14 : decode cJ0_isLatin1_aae02 14 = .ok (.goto 4, 3) := by decide +kernel
theorem dS_isLatin1_18 : decode cJ0_isLatin1_aae02 18 = .ok (.ireturn, 1) := by decide +kernel
theorem dS_length_0 : decode cJ0_length_8abf5 0 = .ok (.aload_n 0, 1) := by decide +kernel
theorem dS_length_1 : decode cJ0_length_8abf5 1 = .ok (.getfield 9, 3) := by decide +kernel
theorem dS_length_4 : decode cJ0_length_8abf5 4 = .ok (.arraylength, 1) := by decide +kernel
theorem dS_length_5 : decode cJ0_length_8abf5 5 = .ok (.aload_n 0, 1) := by decide +kernel
theorem dS_length_6 : decode cJ0_length_8abf5 6 = .ok (.invokevirtual 335, 3) := by decide +kernel
theorem dS_length_9 : decode cJ0_length_8abf5 9 = .ok (.ishr, 1) := by decide +kernel
theorem dS_length_10 : decode cJ0_length_8abf5 10 = .ok (.ireturn, 1) := by decide +kernel
theorem dS_charAt_0 : decode cJ0_charAt_5068e 0 = .ok (.aload_n 0, 1) := by decide +kernel
theorem dS_charAt_1 : decode cJ0_charAt_5068e 1 = .ok (.invokevirtual 492, 3) := by decide +kernel
theorem dS_charAt_4 : decode cJ0_charAt_5068e 4 = .ok (.ifCond .eq 12, 3) := by decide +kernel
theorem dS_charAt_7 : decode cJ0_charAt_5068e 7 = .ok (.aload_n 0, 1) := by decide +kernel
theorem dS_charAt_8 : decode cJ0_charAt_5068e 8 = .ok (.getfield 9, 3) := by decide +kernel
theorem dS_charAt_11 : decode cJ0_charAt_5068e 11 = .ok (.iload_n 1, 1) := by decide +kernel
theorem dS_charAt_12 : decode cJ0_charAt_5068e 12 = .ok (.invokestatic 495, 3) := by decide +kernel
theorem dS_charAt_15 : decode cJ0_charAt_5068e 15 = .ok (.ireturn, 1) := by decide +kernel
theorem dS_checkIndex_0 : decode cJ0_checkIndex_df160 0 = .ok (.iload_n 0, 1) := by decide +kernel
theorem dS_checkIndex_1 : decode cJ0_checkIndex_df160 1 = .ok (.iload_n 1, 1) := by decide +kernel
theorem dS_checkIndex_2 : decode cJ0_checkIndex_df160 2 = .ok (.getstatic 1053, 3) := by decide +kernel
theorem dS_checkIndex_5 : decode cJ0_checkIndex_df160 5 = .ok (.invokestatic 1059, 3) := by decide +kernel
theorem dS_checkIndex_8 : decode cJ0_checkIndex_df160 8 = .ok (.pop, 1) := by decide +kernel
theorem dS_checkIndex_9 : decode cJ0_checkIndex_df160 9 = .ok (.return_, 1) := by decide +kernel
theorem dS_l1_0 : decode cJ1_charAt_3b067 0 = .ok (.iload_n 1, 1) := by decide +kernel
theorem dS_l1_1 : decode cJ1_charAt_3b067 1 = .ok (.aload_n 0, 1) := by decide +kernel
theorem dS_l1_2 : decode cJ1_charAt_3b067 2 = .ok (.arraylength, 1) := by decide +kernel
theorem dS_l1_3 : decode cJ1_charAt_3b067 3 = .ok (.invokestatic 9, 3) := by decide +kernel
theorem dS_l1_6 : decode cJ1_charAt_3b067 6 = .ok (.aload_n 0, 1) := by decide +kernel
theorem dS_l1_7 : decode cJ1_charAt_3b067 7 = .ok (.iload_n 1, 1) := by decide +kernel
theorem dS_l1_8 : decode cJ1_charAt_3b067 8 = .ok (.baload, 1) := by decide +kernel
theorem dS_l1_9 : decode cJ1_charAt_3b067 9 = .ok (.sipush 255, 3) := by decide +kernel
theorem dS_l1_12 : decode cJ1_charAt_3b067 12 = .ok (.iand, 1) := by decide +kernel
theorem dS_l1_13 : decode cJ1_charAt_3b067 13 = .ok (.i2c, 1) := by decide +kernel
theorem dS_l1_14 : decode cJ1_charAt_3b067 14 = .ok (.ireturn, 1) := by decide +kernel
theorem dS_pre_0 : decode cJ3_checkIndex_8e157 0 = .ok (.iload_n 0, 1) := by decide +kernel
theorem dS_pre_1 : decode cJ3_checkIndex_8e157 1 = .ok (.ifCond .lt 8, 3) := by decide +kernel
theorem dS_pre_4 : decode cJ3_checkIndex_8e157 4 = .ok (.iload_n 0, 1) := by decide +kernel
theorem dS_pre_5 : decode cJ3_checkIndex_8e157 5 = .ok (.iload_n 1, 1) := by decide +kernel
theorem dS_pre_6 : decode cJ3_checkIndex_8e157 6 = .ok (.if_icmp .lt 10, 3) := by decide +kernel
theorem dS_pre_16 : decode cJ3_checkIndex_8e157 16 = .ok (.iload_n 0, 1) := by decide +kernel
theorem dS_pre_17 : decode cJ3_checkIndex_8e157 17 = .ok (.ireturn, 1) := by decide +kernel
theorem cS_coder (l : Launch) {ad : Nat → Nat} {A : Nat → Prop} {i : Nat} (hi : i < 6) : mJm l yJ0_coder_7d493 cJ0_coder_7d493 1 (some .byte) 0 [.ref (ad (1000000 + i))] ad A 0 := by
  refine Met.ofW (cc := cJ0_coder_7d493) (maxL := 1) (ret := some .byte) (by decide) rfl ?_
  intro p e s m args below meth c s₁ B hml hv
  obtain ⟨rfl, hSs⟩ := hv
  have hx := B.exec
  have hb := B.bytes
  have hr := B.returns
  have hts := atoms_spec (ws := mJw yJ0_coder_7d493 cJ0_coder_7d493 1 (some .byte)) B.pre
  have hin : ∀ w ∈ mWT, w.before _ s = true := fun w hw => hts w (List.mem_cons_of_mem _ hw)
  have hown : s.vm.findClass RJ0 = some m.cls := findClass_of_methodNamed B.named
  have hS : va_S A s.heap s.heap [] := va_S.rf
  have hS0 : va_S (fun _ => False) s.heap s.heap [] := va_S.rf
  have hl := lv_entry ([.ref (ad (1000000 + i))]) (n := 1) (Nat.le_of_ble_eq_true rfl)
  rw [lg_entry_eq]
  generalize (lg_sl ([.ref (ad (1000000 + i))]) ++ List.replicate (1 - (lg_sl ([.ref (ad (1000000 + i))])).length) Slot.unset).toArray = ls at hl ⊢
  obtain ⟨h1, h2, h3, h4⟩ := id hSs
  have hl : lv_has ls 1 [(0, .ref (ad (1000000 + i)))] := hl
  obtain ⟨g1, g2, g3, g4⟩ := h1.1 i hi
  refine va_gets (ref := "java/lang/String") hx hb h3 hS hown (hin _ (mW_in (p := 149) rfl rfl)) (fun _ h9 => h9) dS_coder_0 ?_
  refine lv_if_eq (tgt := 13) hx hb dS_coder_3 (by decide) (fun c_ => absurd c_ (by decide)) (fun _ => ?_)
  refine lv_aload_n hx hb dS_coder_6 rfl (lv_at hl 0 rfl) ?_
  refine vk_getf (ref := "java/lang/String") hx hb g2 hS hown (hin _ (mW_in (p := 1866) rfl rfl)) (fun _ h9 => h9) dS_coder_7 ?_
  refine lv_goto (tgt := 14) hx hb dS_coder_10 (by decide) ?_
  exact W.zret (ty := .byte) (v := 0) hx hb hr rfl (fun t ht hW => ⟨⟨0, (), rfl, rfl, trivial⟩, hS0.F ht⟩) hS0.2.2 dS_coder_14 B.notSynchronized
theorem cS_isLatin1 (l : Launch) {ad : Nat → Nat} {A : Nat → Prop} {i : Nat} (hi : i < 6) : mJm l yJ0_isLatin1_aae02 cJ0_isLatin1_aae02 1 (some .boolean) 0 [.ref (ad (1000000 + i))] ad A 1 := by
  refine Met.ofW (cc := cJ0_isLatin1_aae02) (maxL := 1) (ret := some .boolean) (by decide) rfl ?_
  intro p e s m args below meth c s₁ B hml hv
  obtain ⟨rfl, hSs⟩ := hv
  have hx := B.exec
  have hb := B.bytes
  have hr := B.returns
  have hts := atoms_spec (ws := mJw yJ0_isLatin1_aae02 cJ0_isLatin1_aae02 1 (some .boolean)) B.pre
  have hin : ∀ w ∈ mWT, w.before _ s = true := fun w hw => hts w (List.mem_cons_of_mem _ hw)
  have hown : s.vm.findClass RJ0 = some m.cls := findClass_of_methodNamed B.named
  have hS : va_S A s.heap s.heap [] := va_S.rf
  have hS0 : va_S (fun _ => False) s.heap s.heap [] := va_S.rf
  have hl := lv_entry ([.ref (ad (1000000 + i))]) (n := 1) (Nat.le_of_ble_eq_true rfl)
  rw [lg_entry_eq]
  generalize (lg_sl ([.ref (ad (1000000 + i))]) ++ List.replicate (1 - (lg_sl ([.ref (ad (1000000 + i))])).length) Slot.unset).toArray = ls at hl ⊢
  obtain ⟨h1, h2, h3, h4⟩ := id hSs
  have hl : lv_has ls 1 [(0, .ref (ad (1000000 + i)))] := hl
  obtain ⟨g1, g2, g3, g4⟩ := h1.1 i hi
  refine va_gets (ref := "java/lang/String") hx hb h3 hS hown (hin _ (mW_in (p := 149) rfl rfl)) (fun _ h9 => h9) dS_isLatin1_0 ?_
  refine lv_if_eq (tgt := 17) hx hb dS_isLatin1_3 (by decide) (fun c_ => absurd c_ (by decide)) (fun _ => ?_)
  refine lv_aload_n hx hb dS_isLatin1_6 rfl (lv_at hl 0 rfl) ?_
  refine vk_getf (ref := "java/lang/String") hx hb g2 hS hown (hin _ (mW_in (p := 1866) rfl rfl)) (fun _ h9 => h9) dS_isLatin1_7 ?_
  refine lv_if_ne (tgt := 17) hx hb dS_isLatin1_10 (by decide) (fun c_ => absurd rfl c_) (fun _ => ?_)
  refine lv_iconst (v := 1) hx hb dS_isLatin1_13 (by decide) ?_
  refine lv_goto (tgt := 18) hx hb dS_isLatin1_14 (by decide) ?_
  exact W.zret (ty := .boolean) (v := 1) hx hb hr rfl (fun t ht hW => ⟨⟨1, (), rfl, rfl, trivial⟩, hS0.F ht⟩) hS0.2.2 dS_isLatin1_18 B.notSynchronized
theorem mShr0 {k : Nat} (h : k < 1000) : nI k >>> ((0 : Int32) &&& 31) = nI k := by
  rw [show ((0 : Int32) &&& 31) = 0 by decide]
  simp
theorem cS_length (l : Launch) {ad : Nat → Nat} {A : Nat → Prop} {i : Nat} (hi : i < 6) : mJm l yJ0_length_8abf5 cJ0_length_8abf5 1 (some .int) 1 [.ref (ad (1000000 + i))] ad A (nI (mSl.getD i 0)) := by
  refine Met.ofW (cc := cJ0_length_8abf5) (maxL := 1) (ret := some .int) (by decide) rfl ?_
  intro p e s m args below meth c s₁ B hml hv
  obtain ⟨rfl, hSs⟩ := hv
  have hx := B.exec
  have hb := B.bytes
  have hr := B.returns
  have hts := atoms_spec (ws := mJw yJ0_length_8abf5 cJ0_length_8abf5 1 (some .int)) B.pre
  have hin : ∀ w ∈ mWT, w.before _ s = true := fun w hw => hts w (List.mem_cons_of_mem _ hw)
  have hown : s.vm.findClass RJ0 = some m.cls := findClass_of_methodNamed B.named
  have hS : va_S A s.heap s.heap [] := va_S.rf
  have hS0 : va_S (fun _ => False) s.heap s.heap [] := va_S.rf
  have hl := lv_entry ([.ref (ad (1000000 + i))]) (n := 1) (Nat.le_of_ble_eq_true rfl)
  rw [lg_entry_eq]
  generalize (lg_sl ([.ref (ad (1000000 + i))]) ++ List.replicate (1 - (lg_sl ([.ref (ad (1000000 + i))])).length) Slot.unset).toArray = ls at hl ⊢
  obtain ⟨h1, h2, h3, h4⟩ := id hSs
  have hl : lv_has ls 1 [(0, .ref (ad (1000000 + i)))] := hl
  obtain ⟨g1, g2, g3, g4⟩ := h1.1 i hi
  refine lv_aload_n hx hb dS_length_0 rfl (lv_at hl 0 rfl) ?_
  refine vk_getf (ref := "java/lang/String") hx hb g3 hS hown (hin _ (mW_in (p := 1865) rfl rfl)) (fun _ h9 => h9) dS_length_1 ?_
  refine va_tlen (v := nI (mSl.getD i 0)) hx hb g4 hS rfl dS_length_4 ?_
  refine lv_aload_n hx hb dS_length_5 rfl (lv_at hl 0 rfl) ?_
  refine va_calli (va_runV (C := "java/lang/String") (As := []) (rest := [.int (nI (mSl.getD i 0))]) ⟨hx, hb, hml, hown, hts⟩ (cS_coder l hi (ad := ad) (A := A)) ⟨callB_of 0 hts (mJw_good (mW_in (p := 148) rfl rfl)) rfl rfl rfl (hin _ (mW_in (p := 5) rfl rfl)) (hin _ (mW_in (p := 145) rfl rfl)) ⟨by decide, by decide, by decide +kernel⟩ ⟨Nat.le_of_ble_eq_true rfl, Nat.le_of_ble_eq_true rfl⟩, (hin _ (mW_in (p := 146) rfl rfl)), (hin _ (mW_in (p := 147) rfl rfl))⟩ ⟨mSs_blind, vk_recv h1 hi hS, fun U hU hW => ⟨rfl, mSs_to hSs hW (by rw [hU]; exact hS) (fun _ h => h) (fun _ _ => rfl)⟩⟩ rfl rfl hl.1 rfl (lv_room (Nat.le_of_ble_eq_true rfl)) dS_length_6 ⟨Nat.le_of_ble_eq_true rfl, Nat.le_of_ble_eq_true rfl⟩) hS0 (fun q _ h => h) (fun q h => h) (fun r_ u t H1 locs ht hvm hw hB hz1 hk1 hS0 => ?_)
  subst hw
  refine lv_ishr hx hb dS_length_9 ?_
  rw [show nI (mSl.getD i 0) >>> ((0 : Int32) &&& 31) = nI (mSl.getD i 0) from mShr0 (mSl_ok i hi).2.1]
  exact W.iret (v := nI (mSl.getD i 0)) hx hb hr (fun t ht hW => ⟨⟨nI (mSl.getD i 0), (), rfl, rfl, trivial⟩, hS0.F ht⟩) hS0.2.2 dS_length_10

theorem cS_pren (l : Launch) {ad : Nat → Nat} {A : Nat → Prop} {k n : Int32} (hk : ¬ k < 0) (hn : k < n) : mJm l yJ3_checkIndex_8e157 cJ3_checkIndex_8e157 3 (some .int) 0 [.int k, .int n, .null] ad A k := by
  refine Met.ofW (cc := cJ3_checkIndex_8e157) (maxL := 3) (ret := some .int) (by decide) rfl ?_
  intro p e s m args below meth c s₁ B hml hv
  obtain ⟨rfl, hSs⟩ := hv
  have hx := B.exec
  have hb := B.bytes
  have hr := B.returns
  have hts := atoms_spec (ws := mJw yJ3_checkIndex_8e157 cJ3_checkIndex_8e157 3 (some .int)) B.pre
  have hin : ∀ w ∈ mWT, w.before _ s = true := fun w hw => hts w (List.mem_cons_of_mem _ hw)
  have hown : s.vm.findClass RJ3 = some m.cls := findClass_of_methodNamed B.named
  have hS : va_S A s.heap s.heap [] := va_S.rf
  have hS0 : va_S (fun _ => False) s.heap s.heap [] := va_S.rf
  have hl := lv_entry ([.int k, .int n, .null]) (n := 3) (Nat.le_of_ble_eq_true rfl)
  rw [lg_entry_eq]
  generalize (lg_sl ([.int k, .int n, .null]) ++ List.replicate (3 - (lg_sl ([.int k, .int n, .null])).length) Slot.unset).toArray = ls at hl ⊢
  obtain ⟨h1, h2, h3, h4⟩ := id hSs
  have hl : lv_has ls 3 [(0, .int k), (1, .int n), (2, .null)] := hl
  refine lv_iload_n hx hb dS_pre_0 rfl (lv_at hl 0 rfl) ?_
  refine lv_if_lt (tgt := 9) hx hb dS_pre_1 (by decide) (fun c_ => absurd c_ hk) (fun _ => ?_)
  refine lv_iload_n hx hb dS_pre_4 rfl (lv_at hl 0 rfl) ?_
  refine lv_iload_n hx hb dS_pre_5 rfl (lv_at hl 1 rfl) ?_
  refine lv_icmp_lt (tgt := 16) hx hb dS_pre_6 (by decide) (fun _ => ?_) (fun c_ => absurd hn c_)
  refine lv_iload_n hx hb dS_pre_16 rfl (lv_at hl 0 rfl) ?_
  exact W.iret (v := k) hx hb hr (fun t ht hW => ⟨⟨k, (), rfl, rfl, trivial⟩, hS0.F ht⟩) hS0.2.2 dS_pre_17
theorem cS_prer (l : Launch) {ad : Nat → Nat} {A : Nat → Prop} {q : Nat} {k n : Int32} (hk : ¬ k < 0) (hn : k < n) : mJm l yJ3_checkIndex_8e157 cJ3_checkIndex_8e157 3 (some .int) 0 [.int k, .int n, .ref q] ad A k := by
  refine Met.ofW (cc := cJ3_checkIndex_8e157) (maxL := 3) (ret := some .int) (by decide) rfl ?_
  intro p e s m args below meth c s₁ B hml hv
  obtain ⟨rfl, hSs⟩ := hv
  have hx := B.exec
  have hb := B.bytes
  have hr := B.returns
  have hts := atoms_spec (ws := mJw yJ3_checkIndex_8e157 cJ3_checkIndex_8e157 3 (some .int)) B.pre
  have hin : ∀ w ∈ mWT, w.before _ s = true := fun w hw => hts w (List.mem_cons_of_mem _ hw)
  have hown : s.vm.findClass RJ3 = some m.cls := findClass_of_methodNamed B.named
  have hS : va_S A s.heap s.heap [] := va_S.rf
  have hS0 : va_S (fun _ => False) s.heap s.heap [] := va_S.rf
  have hl := lv_entry ([.int k, .int n, .ref q]) (n := 3) (Nat.le_of_ble_eq_true rfl)
  rw [lg_entry_eq]
  generalize (lg_sl ([.int k, .int n, .ref q]) ++ List.replicate (3 - (lg_sl ([.int k, .int n, .ref q])).length) Slot.unset).toArray = ls at hl ⊢
  obtain ⟨h1, h2, h3, h4⟩ := id hSs
  have hl : lv_has ls 3 [(0, .int k), (1, .int n), (2, .ref q)] := hl
  refine lv_iload_n hx hb dS_pre_0 rfl (lv_at hl 0 rfl) ?_
  refine lv_if_lt (tgt := 9) hx hb dS_pre_1 (by decide) (fun c_ => absurd c_ hk) (fun _ => ?_)
  refine lv_iload_n hx hb dS_pre_4 rfl (lv_at hl 0 rfl) ?_
  refine lv_iload_n hx hb dS_pre_5 rfl (lv_at hl 1 rfl) ?_
  refine lv_icmp_lt (tgt := 16) hx hb dS_pre_6 (by decide) (fun _ => ?_) (fun c_ => absurd hn c_)
  refine lv_iload_n hx hb dS_pre_16 rfl (lv_at hl 0 rfl) ?_
  exact W.iret (v := k) hx hb hr (fun t ht hW => ⟨⟨k, (), rfl, rfl, trivial⟩, hS0.F ht⟩) hS0.2.2 dS_pre_17
theorem cS_check (l : Launch) {ad : Nat → Nat} {A : Nat → Prop} {k n : Int32} (hk : ¬ k < 0) (hn : k < n) : mJv l yJ0_checkIndex_df160 cJ0_checkIndex_df160 2 (none) 1 [.int k, .int n] ad A := by
  refine Met.ofW (cc := cJ0_checkIndex_df160) (maxL := 2) (ret := none) (by decide) rfl ?_
  intro p e s m args below meth c s₁ B hml hv
  obtain ⟨rfl, hSs⟩ := hv
  have hx := B.exec
  have hb := B.bytes
  have hr := B.returns
  have hts := atoms_spec (ws := mJw yJ0_checkIndex_df160 cJ0_checkIndex_df160 2 (none)) B.pre
  have hin : ∀ w ∈ mWT, w.before _ s = true := fun w hw => hts w (List.mem_cons_of_mem _ hw)
  have hown : s.vm.findClass RJ0 = some m.cls := findClass_of_methodNamed B.named
  have hS : va_S A s.heap s.heap [] := va_S.rf
  have hS0 : va_S (fun _ => False) s.heap s.heap [] := va_S.rf
  have hl := lv_entry ([.int k, .int n]) (n := 2) (Nat.le_of_ble_eq_true rfl)
  rw [lg_entry_eq]
  generalize (lg_sl ([.int k, .int n]) ++ List.replicate (2 - (lg_sl ([.int k, .int n])).length) Slot.unset).toArray = ls at hl ⊢
  obtain ⟨h1, h2, h3, h4⟩ := id hSs
  have hl : lv_has ls 2 [(0, .int k), (1, .int n)] := hl
  refine lv_iload_n hx hb dS_checkIndex_0 rfl (lv_at hl 0 rfl) ?_
  refine lv_iload_n hx hb dS_checkIndex_1 rfl (lv_at hl 1 rfl) ?_
  rcases h4 with h4 | ⟨q0, h4⟩
  · refine va_gets (ref := "jdk/internal/util/Preconditions") hx hb h4 hS hown (hin _ (mW_in (p := 165) rfl rfl)) (fun _ h9 => h9) dS_checkIndex_2 ?_
    refine va_calli (va_runS (As := [.int k, .int n, .null]) (rest := []) ⟨hx, hb, hml, hown, hts⟩ (cS_pren l hk hn (ad := ad) (A := A)) ⟨callB_of 3 hts (mJw_good (mW_in (p := 169) rfl rfl)) rfl rfl rfl (hin _ (mW_in (p := 7) rfl rfl)) (hin _ (mW_in (p := 167) rfl rfl)) ⟨by decide, by decide, by decide +kernel⟩ ⟨Nat.le_of_ble_eq_true rfl, Nat.le_of_ble_eq_true rfl⟩, (hin _ (mW_in (p := 168) rfl rfl))⟩ ⟨mSs_blind, fun U hU hW => ⟨rfl, mSs_to hSs hW (by rw [hU]; exact hS) (fun _ h => h) (fun _ _ => rfl)⟩⟩ rfl rfl hl.1 rfl (lv_room (Nat.le_of_ble_eq_true rfl)) dS_checkIndex_5 ⟨Nat.le_of_ble_eq_true rfl, Nat.le_of_ble_eq_true rfl⟩) hS0 (fun q _ h => h) (fun q h => h) (fun r_ u t H1 locs ht hvm hw hB hz1 hk1 hS0 => ?_)
    refine lv_pop hx hb dS_checkIndex_8 rfl ?_
    exact W.vret hx hb hr (fun t ht hW => ⟨⟨(), rfl, trivial, trivial⟩, hS0.F ht⟩) hS0.2.2 dS_checkIndex_9
  · refine va_gets (ref := "jdk/internal/util/Preconditions") hx hb h4 hS hown (hin _ (mW_in (p := 165) rfl rfl)) (fun _ h9 => h9) dS_checkIndex_2 ?_
    refine va_calli (va_runS (As := [.int k, .int n, .ref q0]) (rest := []) ⟨hx, hb, hml, hown, hts⟩ (cS_prer l (q := q0) hk hn (ad := ad) (A := A)) ⟨callB_of 3 hts (mJw_good (mW_in (p := 169) rfl rfl)) rfl rfl rfl (hin _ (mW_in (p := 7) rfl rfl)) (hin _ (mW_in (p := 167) rfl rfl)) ⟨by decide, by decide, by decide +kernel⟩ ⟨Nat.le_of_ble_eq_true rfl, Nat.le_of_ble_eq_true rfl⟩, (hin _ (mW_in (p := 168) rfl rfl))⟩ ⟨mSs_blind, fun U hU hW => ⟨rfl, mSs_to hSs hW (by rw [hU]; exact hS) (fun _ h => h) (fun _ _ => rfl)⟩⟩ rfl rfl hl.1 rfl (lv_room (Nat.le_of_ble_eq_true rfl)) dS_checkIndex_5 ⟨Nat.le_of_ble_eq_true rfl, Nat.le_of_ble_eq_true rfl⟩) hS0 (fun q _ h => h) (fun q h => h) (fun r_ u t H1 locs ht hvm hw hB hz1 hk1 hS0 => ?_)
    refine lv_pop hx hb dS_checkIndex_8 rfl ?_
    exact W.vret hx hb hr (fun t ht hW => ⟨⟨(), rfl, trivial, trivial⟩, hS0.F ht⟩) hS0.2.2 dS_checkIndex_9
theorem cS_l1 (l : Launch) {ad : Nat → Nat} {A : Nat → Prop} {i k : Nat} (hi : i < 6) (hk : k < mSl.getD i 0) : mJm l yJ1_charAt_3b067 cJ1_charAt_3b067 2 (some .char) 2 [.ref (ad (1000010 + i)), .int (nI k)] ad A (mSc i k) := by
  refine Met.ofW (cc := cJ1_charAt_3b067) (maxL := 2) (ret := some .char) (by decide) rfl ?_
  intro p e s m args below meth c s₁ B hml hv
  obtain ⟨rfl, hSs⟩ := hv
  have hx := B.exec
  have hb := B.bytes
  have hr := B.returns
  have hts := atoms_spec (ws := mJw yJ1_charAt_3b067 cJ1_charAt_3b067 2 (some .char)) B.pre
  have hin : ∀ w ∈ mWT, w.before _ s = true := fun w hw => hts w (List.mem_cons_of_mem _ hw)
  have hown : s.vm.findClass RJ1 = some m.cls := findClass_of_methodNamed B.named
  have hS : va_S A s.heap s.heap [] := va_S.rf
  have hS0 : va_S (fun _ => False) s.heap s.heap [] := va_S.rf
  have hl := lv_entry ([.ref (ad (1000010 + i)), .int (nI k)]) (n := 2) (Nat.le_of_ble_eq_true rfl)
  rw [lg_entry_eq]
  generalize (lg_sl ([.ref (ad (1000010 + i)), .int (nI k)]) ++ List.replicate (2 - (lg_sl ([.ref (ad (1000010 + i)), .int (nI k)])).length) Slot.unset).toArray = ls at hl ⊢
  obtain ⟨h1, h2, h3, h4⟩ := id hSs
  have hl : lv_has ls 2 [(0, .ref (ad (1000010 + i))), (1, .int (nI k))] := hl
  obtain ⟨g1, g2, g3, g4⟩ := h1.1 i hi
  have hz := (mSl_ok i hi).2.1
  refine lv_iload_n hx hb dS_l1_0 rfl (lv_at hl 1 rfl) ?_
  refine lv_aload_n hx hb dS_l1_1 rfl (lv_at hl 0 rfl) ?_
  refine va_tlen (v := nI (mSl.getD i 0)) hx hb g4 hS rfl dS_l1_2 ?_
  refine va_callv (va_runS (As := [.int (nI k), .int (nI (mSl.getD i 0))]) (rest := []) ⟨hx, hb, hml, hown, hts⟩ (cS_check l (k := nI k) (n := nI (mSl.getD i 0)) (nI_pos (by omega)) (nI_lt hk (by omega)) (ad := ad) (A := A)) ⟨callB_of 2 hts (mJw_good (mW_in (p := 164) rfl rfl)) rfl rfl rfl (hin _ (mW_in (p := 5) rfl rfl)) (hin _ (mW_in (p := 162) rfl rfl)) ⟨by decide, by decide, by decide +kernel⟩ ⟨Nat.le_of_ble_eq_true rfl, Nat.le_of_ble_eq_true rfl⟩, (hin _ (mW_in (p := 163) rfl rfl))⟩ ⟨mSs_blind, fun U hU hW => ⟨rfl, mSs_to hSs hW (by rw [hU]; exact hS) (fun _ h => h) (fun _ _ => rfl)⟩⟩ rfl rfl hl.1 rfl (lv_room (Nat.le_of_ble_eq_true rfl)) dS_l1_3 ⟨Nat.le_of_ble_eq_true rfl, Nat.le_of_ble_eq_true rfl⟩) hS0 (fun q _ h => h) (fun q h => h) (fun u t H1 locs ht hvm hw hB hz1 hk1 hS0 => ?_)
  have hH1 : va_S A s.heap H1 locs := ⟨hS0.1, fun q q1 _ => hS0.2.1 q q1 (fun h => h), fun l h => (hS0.2.2 l h).elim⟩
  refine lv_aload_n hx hb dS_l1_6 rfl (lv_at hl 0 rfl) ?_
  refine lv_iload_n hx hb dS_l1_7 rfl (lv_at hl 1 rfl) ?_
  refine va_tb (v := .int (mSc i k)) hx hb g4 hH1 (vp_in_nI hk (by omega)) (by rw [nI_clamp (by omega)]; rfl) dS_l1_8 ?_
  refine lv_sipush (v := 255) hx hb dS_l1_9 (by decide) ?_
  refine lv_iand hx hb dS_l1_12 ?_
  refine lv_i2c (v := mSc i k) hx hb dS_l1_13 (mSc_ok hi hk) ?_
  exact W.zret (ty := .char) (v := mSc i k) hx hb hr (mSc_nar hi hk) (fun t ht hW => ⟨⟨mSc i k, (), rfl, rfl, trivial⟩, hS0.F ht⟩) hS0.2.2 dS_l1_14 B.notSynchronized
theorem cS_charAt (l : Launch) {ad : Nat → Nat} {A : Nat → Prop} {i k : Nat} (hi : i < 6) (hk : k < mSl.getD i 0) : mJm l yJ0_charAt_5068e cJ0_charAt_5068e 2 (some .char) 3 [.ref (ad (1000000 + i)), .int (nI k)] ad A (mSc i k) := by
  refine Met.ofW (cc := cJ0_charAt_5068e) (maxL := 2) (ret := some .char) (by decide) rfl ?_
  intro p e s m args below meth c s₁ B hml hv
  obtain ⟨rfl, hSs⟩ := hv
  have hx := B.exec
  have hb := B.bytes
  have hr := B.returns
  have hts := atoms_spec (ws := mJw yJ0_charAt_5068e cJ0_charAt_5068e 2 (some .char)) B.pre
  have hin : ∀ w ∈ mWT, w.before _ s = true := fun w hw => hts w (List.mem_cons_of_mem _ hw)
  have hown : s.vm.findClass RJ0 = some m.cls := findClass_of_methodNamed B.named
  have hS : va_S A s.heap s.heap [] := va_S.rf
  have hS0 : va_S (fun _ => False) s.heap s.heap [] := va_S.rf
  have hl := lv_entry ([.ref (ad (1000000 + i)), .int (nI k)]) (n := 2) (Nat.le_of_ble_eq_true rfl)
  rw [lg_entry_eq]
  generalize (lg_sl ([.ref (ad (1000000 + i)), .int (nI k)]) ++ List.replicate (2 - (lg_sl ([.ref (ad (1000000 + i)), .int (nI k)])).length) Slot.unset).toArray = ls at hl ⊢
  obtain ⟨h1, h2, h3, h4⟩ := id hSs
  have hl : lv_has ls 2 [(0, .ref (ad (1000000 + i))), (1, .int (nI k))] := hl
  obtain ⟨g1, g2, g3, g4⟩ := h1.1 i hi
  refine lv_aload_n hx hb dS_charAt_0 rfl (lv_at hl 0 rfl) ?_
  refine va_calli (va_runV (C := "java/lang/String") (As := []) (rest := []) ⟨hx, hb, hml, hown, hts⟩ (cS_isLatin1 l hi (ad := ad) (A := A)) ⟨callB_of 0 hts (mJw_good (mW_in (p := 158) rfl rfl)) rfl rfl rfl (hin _ (mW_in (p := 5) rfl rfl)) (hin _ (mW_in (p := 155) rfl rfl)) ⟨by decide, by decide, by decide +kernel⟩ ⟨Nat.le_of_ble_eq_true rfl, Nat.le_of_ble_eq_true rfl⟩, (hin _ (mW_in (p := 156) rfl rfl)), (hin _ (mW_in (p := 157) rfl rfl))⟩ ⟨mSs_blind, vk_recv h1 hi hS, fun U hU hW => ⟨rfl, mSs_to hSs hW (by rw [hU]; exact hS) (fun _ h => h) (fun _ _ => rfl)⟩⟩ rfl rfl hl.1 rfl (lv_room (Nat.le_of_ble_eq_true rfl)) dS_charAt_1 ⟨Nat.le_of_ble_eq_true rfl, Nat.le_of_ble_eq_true rfl⟩) hS0 (fun q _ h => h) (fun q h => h) (fun r_ u t H1 locs ht hvm hw hB hz1 hk1 hS0 => ?_)
  subst hw
  have hH1 : va_S A s.heap H1 locs := ⟨hS0.1, fun q q1 _ => hS0.2.1 q q1 (fun h => h), fun l h => (hS0.2.2 l h).elim⟩
  refine lv_if_eq (tgt := 16) hx hb dS_charAt_4 (by decide) (fun c_ => absurd c_ (by decide)) (fun _ => ?_)
  refine lv_aload_n hx hb dS_charAt_7 rfl (lv_at hl 0 rfl) ?_
  refine vk_getf (ref := "java/lang/String") hx hb g3 hH1 hown (hin _ (mW_in (p := 1865) rfl rfl)) (fun _ h9 => h9) dS_charAt_8 ?_
  refine lv_iload_n hx hb dS_charAt_11 rfl (lv_at hl 1 rfl) ?_
  refine va_calli (va_runS (As := [.ref (ad (1000010 + i)), .int (nI k)]) (rest := []) ⟨hx, hb, hml, hown, hts⟩ (cS_l1 l hi hk (ad := ad) (A := A)) ⟨callB_of 2 hts (mJw_good (mW_in (p := 161) rfl rfl)) rfl rfl rfl (hin _ (mW_in (p := 6) rfl rfl)) (hin _ (mW_in (p := 159) rfl rfl)) ⟨by decide, by decide, by decide +kernel⟩ ⟨Nat.le_of_ble_eq_true rfl, Nat.le_of_ble_eq_true rfl⟩, (hin _ (mW_in (p := 160) rfl rfl))⟩ ⟨mSs_blind, fun U hU hW => ⟨rfl, mSs_to hSs hW (by rw [hU]; exact hH1) (fun _ h => h) (fun _ _ => rfl)⟩⟩ rfl rfl hl.1 rfl (lv_room (Nat.le_of_ble_eq_true rfl)) dS_charAt_12 ⟨Nat.le_of_ble_eq_true rfl, Nat.le_of_ble_eq_true rfl⟩) hS0 (fun q _ h => h) (fun q h => h) (fun r_ u t H1 locs ht hvm hw hB hz1 hk1 hS0 => ?_)
  subst hw
  exact W.zret (ty := .char) (v := mSc i k) hx hb hr (mSc_nar hi hk) (fun t ht hW => ⟨⟨mSc i k, (), rfl, rfl, trivial⟩, hS0.F ht⟩) hS0.2.2 dS_charAt_15 B.notSynchronized
