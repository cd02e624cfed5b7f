set_option maxHeartbeats 4000000 in
theorem whole_start {p : Program} {e : Env} {s : State} {m : MethodId} {below : List Frame} {meth : Method} {c : Code} (l : Launch) (hflags : l.flags = flags0) {b L : Nat} {xs : Nat → Int32} (hL : L ≤ 3072) (C0 : lw_At p s m meth c b L xs) : W p l e room_1 s m #[Value.ref b] below meth c s.heap [] 0 0 (lw_Z below #[Value.ref b] s) (entryFrame m ([Value.ref b] : List Value).toArray 7) := by
  obtain ⟨D, ta, ad0, C⟩ := ls_start hflags hL C0
  have he := lv_entry ([Value.ref b]) (n := 7) (Nat.le_of_ble_eq_true rfl)
  rw [lg_entry_eq]
  exact l_first C ad0 s.heap [] _ 0 0 (fun _ _ => rfl) (Nat.le_refl _) (Nat.le_refl _) (fun k q h => by simp [mWs, m00] at h) ⟨fun i j p q h => by simp [mWs, m00] at h, fun k q h => by simp [mWs, m00] at h⟩ va_S.rf rfl (lv_has_of he (fun q hq => ls_args ad0 C.2.2.2.2.2.1 q hq))
