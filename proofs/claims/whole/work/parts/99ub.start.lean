/-! THE LAW: at its entry (GENERATED, wip/gen/p/99u.py) -/
theorem ls_arr {s : State} {args : Array Value} {t : FieldType} (h : (Cond.arrayClass t).before args s = true) (hp : ∀ C, t ≠ .object C) : ∃ cA, ArrOfT s cA t ∧ va_RA s cA t := by
  obtain ⟨cA, k, comp, h1, h2, h3⟩ := Cond.arrayClass_spec h
  refine ⟨cA, fun n z => ⟨(fun k h => by cases h), k, h2, comp, h3⟩, ?_⟩
  cases t with
  | object C => exact absurd rfl (hp C)
  | _ => exact h1
theorem ls_obj {s : State} {args : Array Value} {C : String} (h : (Cond.arrayOver (.object C)).before args s = true) : ∃ cA, ArrOfT s cA (.object C) ∧ va_RA s cA (.object C) := by
  obtain ⟨comp, cA, k, h1, h2, h3, h4, h5⟩ := Cond.arrayOver_spec h
  exact ⟨cA, fun n z => ⟨(fun k h => by cases h), k, h3, comp, h4⟩, k, comp, h3, h4, h1, h5⟩
theorem ls_flag {l : Launch} (h : l.flags = flags0) : l.stackTraces = false := by
  unfold Launch.stackTraces
  rw [h]
  decide +kernel
set_option maxHeartbeats 4000000 in
theorem ls_start {p : Program} {l : Launch} {s : State} {m : MethodId} {meth : Method} {c : Code} {b N : Nat} {xs : Nat → Int32} (hflags : l.flags = flags0) (hL : N ≤ 3072) (C0 : lw_At p s m meth c b N xs) : ∃ (D : va_G) (ta : Nat → ClassId) (ad0 : Nat → Nat), lC p l s m meth c D ta ad0 b N xs := by
  obtain ⟨hx, hb, hr, hml, hown, hts, hX, hbl, hlocks, hgv⟩ := C0
  have hfl := flat_of_before _ hgv
  have htw : ∀ w ∈ mWT, w.before #[Value.ref b] s = true := fun w hw => hts w (List.mem_filter.mp hw).1
  have htb := fun (w : Cond) hw => hts w (ls_tb w hw)
  have hff := fun (w : Cond) hw => hfl w (ls_fl w hw)
  have hA : ∀ a : Nat, a < s.heap.size → ¬ lA s a := fun a h => Nat.not_le.mpr h
  have hD : ∃ (f : Nat → ClassId × (Nat → Nat)), ∀ (k : Nat) (q : vw_C), mCL[k]? = some q → u_Kn s q.1 q.2.1 q.2.2 (f k).1 (f k).2 := by
    have h0 : ∀ k : Nat, ∃ g : ClassId × (Nat → Nat), ∀ q : vw_C, mCL[k]? = some q → u_Kn s q.1 q.2.1 q.2.2 g.1 g.2 := by
      intro k
      by_cases hk : k < 11
      · obtain ⟨r, hr1, g1, -, -, -, g5, -⟩ := mC_ok k hk
        obtain ⟨cC, iS, hK⟩ := u_known (C := r.1) (T := r.2.1) (N := r.2.2) (n := r.2.2) htw g1 (htw _ g5)
        refine ⟨(cC, iS), fun q hq => ?_⟩
        cases Option.some.inj (hr1.symm.trans hq)
        exact hK
      · refine ⟨(0, fun _ => 0), fun q hq => absurd (List.getElem?_eq_some_iff.mp hq).1 hk⟩
    exact Classical.axiomOfChoice h0
  obtain ⟨f, hf⟩ := hD
  have hT : ∃ ta : Nat → ClassId, ∀ t, t < 7 → ArrOfT s (ta t) (mTy (20 + t)) ∧ va_RA s (ta t) (mTy (20 + t)) := by
    have h0 : ∀ t : Nat, ∃ cA : ClassId, t < 7 → ArrOfT s cA (mTy (20 + t)) ∧ va_RA s cA (mTy (20 + t)) := by
      intro t
      match t with
      | 0 => obtain ⟨cA, h⟩ := ls_arr (htb (.arrayClass .int) (by simp)) (by simp); exact ⟨cA, fun _ => h⟩
      | 1 => obtain ⟨cA, h⟩ := ls_arr (htb (.arrayClass .byte) (by simp)) (by simp); exact ⟨cA, fun _ => h⟩
      | 2 => obtain ⟨cA, h⟩ := ls_arr (htb (.arrayClass .boolean) (by simp)) (by simp); exact ⟨cA, fun _ => h⟩
      | 3 => obtain ⟨cA, h⟩ := ls_arr (htb (.arrayClass .long) (by simp)) (by simp); exact ⟨cA, fun _ => h⟩
      | 4 => obtain ⟨cA, h⟩ := ls_obj (htb (.arrayOver (.object "MeetingMachines$Link")) (by simp)); exact ⟨cA, fun _ => h⟩
      | 5 => obtain ⟨cA, h⟩ := ls_obj (htb (.arrayOver (.object "MeetingMachines$Machine")) (by simp)); exact ⟨cA, fun _ => h⟩
      | 6 => obtain ⟨cA, h⟩ := ls_obj (htb (.arrayOver (.object "MeetingMachines$World")) (by simp)); exact ⟨cA, fun _ => h⟩
      | t + 7 => exact ⟨0, fun h => by omega⟩
    exact Classical.axiomOfChoice h0
  obtain ⟨ta, hta⟩ := hT
  obtain ⟨adK, adV, hS, hev⟩ := vk_Sof (args := #[Value.ref b]) (s := s) (N := 6) (tm := lTm) (len := mSl) (byt := mSb) (A := lA s) ls_len (fun i hi => hfl _ (ls_ex i hi)) (fun i hi => hfl _ (ls_co i hi)) (fun i hi => hfl _ (ls_ar i hi)) (fun i hi => hfl _ (ls_le i hi)) (fun i hi j hj => hfl _ (ls_el i hi j hj)) (fun i j hi hj hij => (ls_ne i hi j hj hij).imp (hfl _) (hfl _)) hA
  obtain ⟨ad0, had⟩ : ∃ ad0 : Nat → Nat, ∀ o, ad0 o = if o = 1000100 then b else if 1000010 ≤ o then adV (o - 1000010) else adK (o - 1000000) := ⟨_, fun _ => rfl⟩
  have e1 : ∀ i, i < 6 → ad0 (1000000 + i) = adK i := fun i hi => by rw [had, if_neg (by omega), if_neg (by omega), Nat.add_sub_cancel_left]
  have e2 : ∀ i, i < 6 → ad0 (1000010 + i) = adV i := fun i hi => by rw [had, if_neg (by omega), if_pos (by omega), Nat.add_sub_cancel_left]
  have hK : va_K (fun k => (f k).1, fun k => (f k).2) mCL (mTYs ta) s := by
    refine ⟨hf, fun k q hq => ?_⟩
    have hk : k < 7 := by
      have h := (List.getElem?_eq_some_iff.mp hq).1
      unfold mTYs at h
      simpa using h
    rw [mTYs, List.getElem?_map, List.getElem?_range hk] at hq
    cases hq
    exact hta k hk
  have hSs : mSs ad0 (lA s) s := by
    refine ⟨⟨fun i hi => ?_, fun i j hi hj => ?_⟩, fun i r hi => ?_, ?_, ?_⟩
    · have h := hS.1 i hi
      rw [← e1 i hi, ← e2 i hi] at h
      exact h
    · intro (h : ad0 (1000000 + i) = ad0 (1000000 + j))
      rw [e1 i hi, e1 j hj] at h
      exact hS.2 i j hi hj h
    · have hi6 : i < 6 := (List.getElem?_eq_some_iff.mp hi).1
      have h1 := hts _ (ls_st i hi6)
      have h2 := hev i hi6
      have er : mSo.getD i ("", 0, "") = r := by rw [List.getD_eq_getElem?_getD, hi]; rfl
      unfold lTm at h2
      rw [er] at h1 h2
      rw [e1 i hi6]
      exact vk_R.of h1 h2
    · exact va_Zof (htb (.laysStatic "java/lang/String" "COMPACT_STRINGS" "Z") (by simp)) (htb (.initialized "java/lang/String") (by simp)) (va_eqt (hff (.eq (.static "java/lang/String" "COMPACT_STRINGS" "Z") (.int 1)) (by simp))) hA
    · exact va_Zqof (htb (.laysStatic "jdk/internal/util/Preconditions" "SIOOBE_FORMATTER" "Ljava/util/function/BiFunction;") (by simp)) (htb (.initialized "jdk/internal/util/Preconditions") (by simp)) (hff (.isRef (.static "jdk/internal/util/Preconditions" "SIOOBE_FORMATTER" "Ljava/util/function/BiFunction;")) (by simp)) hA
  have hKs : mKs (fun k => (f k).1, fun k => (f k).2) ta ad0 (lA s) s := ⟨hK, fun w hw => va_Nw.of (ls_nw w hw).2 (hts w (ls_nw w hw).1), va_AO.of (htb (.arrayOver (.object "MeetingMachines$Link")) (by simp)), va_AO.of (htb (.arrayOver (.object "MeetingMachines$Machine")) (by simp)), va_AO.of (htb (.arrayOver (.object "MeetingMachines$World")) (by simp)), hSs⟩
  have hZs : mZs (lA s) s := ⟨⟨vx_Zqof (htb (.laysStatic Bundle.tN "UNASSIGNED_STACK" Bundle.steD) (by simp)) (htb (.initialized Bundle.tN) (by simp)) (hff (.isRef (.static Bundle.tN "UNASSIGNED_STACK" Bundle.steD)) (by simp)) hA, vx_Zqof (htb (.laysStatic Bundle.tN "SUPPRESSED_SENTINEL" Bundle.listD) (by simp)) (htb (.initialized Bundle.tN) (by simp)) (hff (.isRef (.static Bundle.tN "SUPPRESSED_SENTINEL" Bundle.listD)) (by simp)) hA⟩, fun w hw => va_Nw.of (nseD_in w hw).2 (hts w (nseD_in w hw).1)⟩
  have S : CallFix p m c code 7 s #[Value.ref b] (mWS 0) RL := ⟨hx, hb, hml, hown, fun w hw => by
    rcases List.mem_cons.mp hw with rfl | hw
    · exact htw _ (mAll_ok 0 (by decide)).1.1
    · exact htw _ hw⟩
  exact ⟨_, ta, ad0, S, hKs, hZs, hX, hbl, by rw [had, if_pos rfl], ls_flag hflags, hr, hlocks, hL⟩
