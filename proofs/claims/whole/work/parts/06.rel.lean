/-! WHAT TIES THE STEP MACHINE TO THE JVM: classes, words, cells -/
abbrev mCL : List vw_C := [(RX0, TX0, 3), (RX1, TX1, 3), (RX2, TX2, 10), (RX3, TX3, 8), (RX4, TX4, 18), (RX5, TX5, 14), (RX6, TX6, 4), (RX7, TX7, 5), (RX8, TX8, 3), (RX9, TX9, 12), (RX10, TX10, 51)]
def mTF (c : Nat) : Nat → FieldType := match c with
  | 0 => tyX0
  | 1 => tyX1
  | 2 => tyX2
  | 3 => tyX3
  | 4 => tyX4
  | 5 => tyX5
  | 6 => tyX6
  | 7 => tyX7
  | 8 => tyX8
  | 9 => tyX9
  | _ => tyX10
def mRefT : FieldType → Bool
  | .object _ => true
  | .array _ => true
  | _ => false
def mTk (k : Nat) : List Cond := match k with
  | 0 => tables_1_1
  | 1 => tables_1_2
  | 2 => tables_1_3
  | 3 => tables_1_4
  | 4 => tables_1_5
  | 5 => tables_1_6
  | 6 => tables_1_7
  | 7 => tables_1_8
  | _ => []
def mW (p : Nat) : Option Cond := (mTk (p / 256))[p % 256]?
def mWT : List Cond := lw_tbl.filter goodWord
def mWS (j : Nat) : List Cond := .code (mt j).2.1 (mt j).2.2.1 (mt j).2.2.2.1 (mt j).2.2.2.2.1 :: mWT
theorem mTk_in {k : Nat} {w : Cond} (h : w ∈ mTk k) : w ∈ tables_1 := by
  unfold tables_1
  simp only [List.mem_append]
  unfold mTk at h
  split at h <;> simp_all
theorem mW_tab {p : Nat} {w : Cond} (h : mW p = some w) : w ∈ lw_tbl := List.mem_append_right _ (mTk_in (List.mem_of_getElem? h))
theorem mW_in {p : Nat} {w : Cond} (h : mW p = some w) (hg : goodWord w = true) : w ∈ mWT := List.mem_filter.mpr ⟨mW_tab h, hg⟩
theorem mWT_good {w : Cond} (h : w ∈ mWT) : goodWord w = true := (List.mem_filter.mp h).2
theorem mPriv_in {i : Nat} {q : MethodName × Nat} (h : lw_privs[i]? = some q) : Cond.selects q.1.cls q.1 q.1 ∈ mWT :=
  List.mem_filter.mpr ⟨List.mem_append_left _ (List.mem_map.mpr ⟨q, List.mem_of_getElem? h, rfl⟩), rfl⟩
theorem mWS_good {i j : Nat} (h : Cond.code (mt j).2.1 (mt j).2.2.1 (mt j).2.2.2.1 (mt j).2.2.2.2.1 ∈ mWT) : GoodIn (mWS i) (mWS j) := by
  intro w hw
  rcases List.mem_cons.mp hw with rfl | hw
  · exact ⟨List.mem_cons_of_mem _ h, good_of_word (mWT_good h)⟩
  · exact ⟨List.mem_cons_of_mem _ hw, good_of_word (mWT_good hw)⟩
/-- values: a number of an object is its address -/
def mCv (ad : Nat → Nat) (v : Value) : Value := match v with
  | .ref a => .ref (ad a)
  | v => v
theorem mCv_rf (ad : Nat → Nat) (x : Option Nat) : mCv ad (va_rf x) = va_rf (x.map ad) := by cases x <;> rfl
theorem mCv_cat (ad : Nat → Nat) (v : Value) : (mCv ad v).category = v.category := by cases v <;> rfl
def mFld (ad : Nat → Nat) (ro : Nat → Option Nat) (vo : Nat → Int32) (wo : Nat → Int64) (t k : Nat) : Value := match t with
  | 4 => va_rf ((ro k).map ad)
  | 3 => .long (wo k)
  | _ => .int (vo k)
def mFs (ad : Nat → Nat) (c : Nat) (ro : Nat → Option Nat) (vo : Nat → Int32) (wo : Nat → Int64) : List Value := (List.range (mFt.getD c []).length).map (fun k => mFld ad ro vo wo ((mFt.getD c []).getD k 0) k)
def mEnc (ta : Nat → ClassId) (ad : Nat → Nat) (kd : Nat × Nat) (ro : Nat → Option Nat) (vo : Nat → Int32) (wo : Nat → Int64) : va_E :=
  if kd.1 < 20 then .inr (kd.1, mFs ad kd.1 ro vo wo)
  else if kd.1 < 23 then .inl (ta (kd.1 - 20), kd.2, .inl vo)
  else if kd.1 = 23 then .inl (ta 3, kd.2, .inr (.inl wo))
  else .inl (ta (kd.1 - 20), kd.2, .inr (.inr (.inr (.inr (fun k => (ro k).map ad)))))
def mTYs (ta : Nat → ClassId) : List (ClassId × FieldType) := (List.range 7).map (fun t => (ta t, mTy (20 + t)))
def mWs (ta : Nat → ClassId) (ad : Nat → Nat) (σ : mMH) : va_W := (List.range σ.2.1.length).map (fun o => (ad o, mEnc ta ad (σ.2.1.getD o (0, 0)) (σ.2.2.1 o) (σ.2.2.2.1 o) (σ.2.2.2.2 o)))
theorem mWs_get {ta : Nat → ClassId} {ad : Nat → Nat} {σ : mMH} {o : Nat} {kd : Nat × Nat} (h : σ.2.1[o]? = some kd) : (mWs ta ad σ)[o]? = some (ad o, mEnc ta ad kd (σ.2.2.1 o) (σ.2.2.2.1 o) (σ.2.2.2.2 o)) := by
  have hl : o < σ.2.1.length := (List.getElem?_eq_some_iff.mp h).1
  unfold mWs
  rw [List.getElem?_map, List.getElem?_range hl]
  simp [List.getD_eq_getElem?_getD, h]
theorem mWs_set {ta : Nat → ClassId} {ad : Nat → Nat} {σ σ' : mMH} {o : Nat} {kd : Nat × Nat} (h : σ.2.1[o]? = some kd) (hk : σ'.2.1 = σ.2.1) (h1 : ∀ q, q ≠ o → σ'.2.2.1 q = σ.2.2.1 q) (h2 : ∀ q, q ≠ o → σ'.2.2.2.1 q = σ.2.2.2.1 q) (h3 : ∀ q, q ≠ o → σ'.2.2.2.2 q = σ.2.2.2.2 q) : mWs ta ad σ' = (mWs ta ad σ).set o (ad o, mEnc ta ad kd (σ'.2.2.1 o) (σ'.2.2.2.1 o) (σ'.2.2.2.2 o)) := by
  have hl : o < σ.2.1.length := (List.getElem?_eq_some_iff.mp h).1
  apply List.ext_getElem?
  intro i
  by_cases hi : i = o
  · subst hi
    rw [mWs_get (kd := kd) (by rw [hk]; exact h), List.getElem?_set_self (by unfold mWs; simpa using hl)]
  · rw [List.getElem?_set_ne (Ne.symm hi)]
    unfold mWs
    rw [hk]
    by_cases hil : i < σ.2.1.length
    · simp only [List.getElem?_map, List.getElem?_range hil, Option.map_some, h1 i hi, h2 i hi, h3 i hi]
    · simp [List.getElem?_eq_none (show (List.range σ.2.1.length).length ≤ i by simpa using Nat.not_lt.mp hil)]
theorem mEnc_ad {ta : Nat → ClassId} {ad ad' : Nat → Nat} {kd : Nat × Nat} {ro : Nat → Option Nat} {vo : Nat → Int32} {wo : Nat → Int64} (h : ∀ k x, ro k = some x → ad' x = ad x) : mEnc ta ad' kd ro vo wo = mEnc ta ad kd ro vo wo := by
  have e : ∀ k, (ro k).map ad' = (ro k).map ad := fun k => by
    cases hr : ro k with
    | none => rfl
    | some x => simp [h k x hr]
  unfold mEnc mFs mFld
  simp only [e]
theorem mWs_new {ta : Nat → ClassId} {ad : Nat → Nat} {σ : mMH} {kd len sz q : Nat} (hr : mRfo σ) : mWs ta (va_up ad σ.2.1.length q) (mNew σ kd len sz) = mWs ta ad σ ++ [(q, mEnc ta ad (kd, len) (fun _ => none) (fun _ => 0) (fun _ => 0))] := by
  have ho : ∀ o, ¬ o = σ.2.1.length → va_up ad σ.2.1.length q o = ad o := fun o h => if_neg h
  apply List.ext_getElem?
  intro i
  have hlen : (mWs ta ad σ).length = σ.2.1.length := by unfold mWs; simp
  have hl2 : (mNew σ kd len sz).2.1.length = σ.2.1.length + 1 := by simp [mNew]
  rcases Nat.lt_trichotomy i σ.2.1.length with hi | hi | hi
  · rw [List.getElem?_append_left (by rw [hlen]; exact hi)]
    obtain ⟨k0, hk0⟩ : ∃ k0, σ.2.1[i]? = some k0 := ⟨_, List.getElem?_eq_getElem hi⟩
    rw [mWs_get hk0, mWs_get (kd := k0) (by show (σ.2.1 ++ [(kd, len)])[i]? = some k0; rw [List.getElem?_append_left hi]; exact hk0)]
    have ni : ¬ i = σ.2.1.length := by omega
    have e1 : (mNew σ kd len sz).2.2.1 i = σ.2.2.1 i := if_neg ni
    have e2 : (mNew σ kd len sz).2.2.2.1 i = σ.2.2.2.1 i := if_neg ni
    have e3 : (mNew σ kd len sz).2.2.2.2 i = σ.2.2.2.2 i := if_neg ni
    rw [e1, e2, e3, ho i ni, mEnc_ad (fun k x hx => ho x (by have := hr i k x hx; omega))]
  · subst hi
    rw [List.getElem?_append_right (by rw [hlen]; exact Nat.le_refl _), hlen, Nat.sub_self]
    rw [mWs_get (kd := (kd, len)) (by show (σ.2.1 ++ [(kd, len)])[σ.2.1.length]? = _; simp)]
    have e1 : (mNew σ kd len sz).2.2.1 σ.2.1.length = fun _ => none := if_pos rfl
    have e2 : (mNew σ kd len sz).2.2.2.1 σ.2.1.length = fun _ => 0 := if_pos rfl
    have e3 : (mNew σ kd len sz).2.2.2.2 σ.2.1.length = fun _ => 0 := if_pos rfl
    rw [e1, e2, e3, show va_up ad σ.2.1.length q σ.2.1.length = q from if_pos rfl, mEnc_ad (ad := ad) (fun k x hx => by cases hx)]
    rfl
  · rw [List.getElem?_eq_none (by unfold mWs; simp [hl2]; omega), List.getElem?_eq_none (by simp [hlen]; omega)]
/-- what a class's fields are -/
theorem mCL_len : ∀ c, c < 11 → (mFt.getD c []).length = (mCL.getD c ("", TX0, 0)).2.2 := by decide +kernel
def mFtB (t : Nat) (ty : FieldType) : Bool := match t with
  | 0 => decide (ty = .int)
  | 1 => decide (ty = .boolean)
  | 3 => decide (ty = .long)
  | 4 => mRefT ty
  | _ => false
theorem mFt_ok : ∀ c, c < 11 → ∀ k, k < 51 → (match (mFt.getD c [])[k]? with | some t => mFtB t (mTF c k) | none => true) = true := by decide +kernel
theorem mFt_lt : ∀ c, c < 11 → (mFt.getD c []).length ≤ 51 := by decide +kernel
theorem mFt_at {c k t : Nat} (hc : c < 11) (h : (mFt.getD c [])[k]? = some t) : mFtB t (mTF c k) = true := by
  have hk : k < (mFt.getD c []).length := (List.getElem?_eq_some_iff.mp h).1
  have h1 := mFt_ok c hc k (Nat.lt_of_lt_of_le hk (mFt_lt c hc))
  rw [h] at h1
  exact h1
def mUin (ps : List Nat) (ws : List Cond) : Bool := decide (ps.map mW = ws.map some) && ws.all goodWord
theorem mUin_ok {ps : List Nat} {ws : List Cond} (h : mUin ps ws = true) : ∀ w ∈ ws, w ∈ mWT := by
  simp only [mUin, Bool.and_eq_true, decide_eq_true_eq, List.all_eq_true] at h
  intro w hw
  have h1 : some w ∈ ps.map mW := by rw [h.1]; exact List.mem_map_of_mem hw
  obtain ⟨p, -, hp⟩ := List.mem_map.mp h1
  exact mW_in hp (h.2 w hw)
theorem mUX0 : mUin [275, 277, 279] (u_ws RX0 TX0 3) = true := by decide +kernel
theorem mIX0 : mUin [264, 10] [.instantiable RX0 3, .initialized RX0] = true := by decide +kernel
theorem mUX1 : mUin [421, 423, 425] (u_ws RX1 TX1 3) = true := by decide +kernel
theorem mIX1 : mUin [409, 14] [.instantiable RX1 3, .initialized RX1] = true := by decide +kernel
theorem mUX2 : mUin [343, 345, 347, 349, 351, 353, 355, 357, 359, 361] (u_ws RX2 TX2 10) = true := by decide +kernel
theorem mIX2 : mUin [315, 13] [.instantiable RX2 10, .initialized RX2] = true := by decide +kernel
theorem mUX3 : mUin [378, 380, 382, 384, 386, 388, 390, 392] (u_ws RX3 TX3 8) = true := by decide +kernel
theorem mIX3 : mUin [284, 11] [.instantiable RX3 8, .initialized RX3] = true := by decide +kernel
theorem mUX4 : mUin [97, 99, 101, 103, 105, 107, 109, 111, 113, 115, 117, 119, 121, 123, 125, 127, 129, 131] (u_ws RX4 TX4 18) = true := by decide +kernel
theorem mIX4 : mUin [38, 3] [.instantiable RX4 18, .initialized RX4] = true := by decide +kernel
theorem mUX5 : mUin [210, 212, 214, 216, 218, 220, 222, 224, 226, 228, 230, 232, 234, 236] (u_ws RX5 TX5 14) = true := by decide +kernel
theorem mIX5 : mUin [32, 2] [.instantiable RX5 14, .initialized RX5] = true := by decide +kernel
theorem mUX6 : mUin [303, 305, 307, 309] (u_ws RX6 TX6 4) = true := by decide +kernel
theorem mIX6 : mUin [290, 12] [.instantiable RX6 4, .initialized RX6] = true := by decide +kernel
theorem mUX7 : mUin [439, 441, 443, 445, 447] (u_ws RX7 TX7 5) = true := by decide +kernel
theorem mIX7 : mUin [429, 15] [.instantiable RX7 5, .initialized RX7] = true := by decide +kernel
theorem mUX8 : mUin [401, 403, 405] (u_ws RX8 TX8 3) = true := by decide +kernel
theorem mIX8 : mUin [258, 9] [.instantiable RX8 3, .initialized RX8] = true := by decide +kernel
theorem mUX9 : mUin [525, 527, 529, 531, 533, 535, 537, 539, 541, 543, 545, 547] (u_ws RX9 TX9 12) = true := by decide +kernel
theorem mIX9 : mUin [24, 1] [.instantiable RX9 12, .initialized RX9] = true := by decide +kernel
theorem mUX10 : mUin [1325, 1327, 1329, 1331, 1333, 1335, 1337, 1339, 1341, 1343, 1345, 1347, 1349, 1351, 1353, 1355, 1357, 1359, 1361, 1363, 1365, 1367, 1369, 1371, 1373, 1375, 1377, 1379, 1381, 1383, 1385, 1387, 1389, 1391, 1393, 1395, 1397, 1399, 1401, 1403, 1405, 1407, 1409, 1411, 1413, 1415, 1417, 1419, 1421, 1423, 1425] (u_ws RX10 TX10 51) = true := by decide +kernel
theorem mIX10 : mUin [1209, 17] [.instantiable RX10 51, .initialized RX10] = true := by decide +kernel
/-- all that is wanted of a class -/
def mCok (c : Nat) (q : vw_C) : Prop := (∀ w ∈ u_ws q.1 q.2.1 q.2.2, w ∈ mWT) ∧ (∀ k, k < q.2.2 → parseFieldDescriptor (q.2.1 k).2.2.1 = some (mTF c k)) ∧ (∀ a, a < q.2.2 → ∀ b, b < q.2.2 → a ≠ b → (q.2.1 a).2.1 ≠ (q.2.1 b).2.1) ∧ (mFt.getD c []).length = q.2.2 ∧ Cond.instantiable q.1 q.2.2 ∈ mWT ∧ Cond.initialized q.1 ∈ mWT
theorem mC_ok : ∀ c, c < 11 → ∃ q, mCL[c]? = some q ∧ mCok c q := by
  intro c hc
  rcases (show c = 0 ∨ c = 1 ∨ c = 2 ∨ c = 3 ∨ c = 4 ∨ c = 5 ∨ c = 6 ∨ c = 7 ∨ c = 8 ∨ c = 9 ∨ c = 10 by omega) with rfl | rfl | rfl | rfl | rfl | rfl | rfl | rfl | rfl | rfl | rfl
  · exact ⟨_, rfl, mUin_ok mUX0, tyX0_ok, nmX0, by decide +kernel, mUin_ok mIX0 _ (by simp), mUin_ok mIX0 _ (by simp)⟩
  · exact ⟨_, rfl, mUin_ok mUX1, tyX1_ok, nmX1, by decide +kernel, mUin_ok mIX1 _ (by simp), mUin_ok mIX1 _ (by simp)⟩
  · exact ⟨_, rfl, mUin_ok mUX2, tyX2_ok, nmX2, by decide +kernel, mUin_ok mIX2 _ (by simp), mUin_ok mIX2 _ (by simp)⟩
  · exact ⟨_, rfl, mUin_ok mUX3, tyX3_ok, nmX3, by decide +kernel, mUin_ok mIX3 _ (by simp), mUin_ok mIX3 _ (by simp)⟩
  · exact ⟨_, rfl, mUin_ok mUX4, tyX4_ok, nmX4, by decide +kernel, mUin_ok mIX4 _ (by simp), mUin_ok mIX4 _ (by simp)⟩
  · exact ⟨_, rfl, mUin_ok mUX5, tyX5_ok, nmX5, by decide +kernel, mUin_ok mIX5 _ (by simp), mUin_ok mIX5 _ (by simp)⟩
  · exact ⟨_, rfl, mUin_ok mUX6, tyX6_ok, nmX6, by decide +kernel, mUin_ok mIX6 _ (by simp), mUin_ok mIX6 _ (by simp)⟩
  · exact ⟨_, rfl, mUin_ok mUX7, tyX7_ok, nmX7, by decide +kernel, mUin_ok mIX7 _ (by simp), mUin_ok mIX7 _ (by simp)⟩
  · exact ⟨_, rfl, mUin_ok mUX8, tyX8_ok, nmX8, by decide +kernel, mUin_ok mIX8 _ (by simp), mUin_ok mIX8 _ (by simp)⟩
  · exact ⟨_, rfl, mUin_ok mUX9, tyX9_ok, nmX9, by decide +kernel, mUin_ok mIX9 _ (by simp), mUin_ok mIX9 _ (by simp)⟩
  · exact ⟨_, rfl, mUin_ok mUX10, tyX10_ok, nmX10, by decide +kernel, mUin_ok mIX10 _ (by simp), mUin_ok mIX10 _ (by simp)⟩
