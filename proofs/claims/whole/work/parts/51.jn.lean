/-! PURE: a join's turn on both sides, whole (GENERATED, wip/gen/p/51.py) -/
theorem wIn_e {x y c : Nat} {n : mF} (d1 : y + 8 ≠ x + 1) (d2 : y + 8 ≠ x + 2) : wIn x y c n = upd (upd (upd (upd (upd n (x + 1) (n (x + 1) + 1)) (x + 2) (n (x + 2) - 1)) (y + 8) (n c)) (y + 7) 1) (y + 9) (-1) := by
  unfold wIn
  rw [upd_comm d1, upd_comm d2]
section JNW
variable {W : Nat → mF} {f joins n : mF} {s i r j k T : Nat}
theorem p_jn {x : Int32} (hx : vp_in x 4) (hk : k < 4) (hf : f 46 = 0) (hs : s < 2) (hi : i < 2) (hr : r < 2) (hj : j < 2) (e1 : joins (2 * k) = nI (2 * s + i)) (e2 : joins (2 * k + 1) = nI (2 * r + j)) (h : RW2 W n) (hD : RD (W 1) (W 2) n T) (hT : T < 2 ^ 30) (hI : W (11 + 10 * r + j) 7 = 1 → ¬ W (11 + 10 * s + i) 0 = -1) : OjJ x (nI s) (nI i) s r (11 + 10 * s + i) (11 + 10 * r + j) W ∧ OX10_goes (nI k) f joins n ∧ ∃ W' f' n', jJ (nI s) (nI i) s r (11 + 10 * s + i) (11 + 10 * r + j) W = tJ W' ∧ FX10_goes (nI k) f joins n = (0, f', n') ∧ PJ W W' f f' n n' (11 + 10 * s + i) (11 + 10 * r + j) T := by
  have z10 : ¬ (1 : Int32) = 0 := by decide
  have z01 : ¬ (0 : Int32) = 1 := by decide
  obtain ⟨ha, va⟩ := RMw_ha (h s hs)
  obtain ⟨hb, vb⟩ := RMw_ha (h r hr)
  have ha : n (174 * s + 97) = W (4 + 10 * s) 19 := ha
  have hb : n (174 * r + 97) = W (4 + 10 * r) 19 := hb
  obtain ⟨g1, g2⟩ := p_goes (n := n) (f := f) hk hs hi hr hj e1 e2 rfl rfl
  have stay : PJ W W f f n n (11 + 10 * s + i) (11 + 10 * r + j) T := ⟨h, RD_c hD (by omega) (fun _ _ => rfl), rfl, fun _ _ => rfl, fun _ _ => rfl, fun _ _ _ => rfl, fun _ _ _ => rfl, hI⟩
  by_cases a : W (4 + 10 * s) 19 = 0
  · have fa : FX3_isHalted (W (4 + 10 * s)) = 0 := if_pos a
    by_cases b : W (4 + 10 * r) 19 = 0
    · have fb' : FX3_isHalted (W (4 + 10 * r)) = 0 := if_pos b
      obtain ⟨gA, gB⟩ := g2 (by rw [ha, a]; exact z01) (by rw [hb, b]; exact z01)
      have eJ : jJ (nI s) (nI i) s r (11 + 10 * s + i) (11 + 10 * r + j) W = jHead (nI s) (nI i) s r (11 + 10 * s + i) (11 + 10 * r + j) W := (if_pos fa).trans (if_pos fb')
      obtain ⟨n7, v7⟩ := lk7 h hr hj
      have n0 := lk0 h hs hi
      -- nothing comes in
      have none : (FX2_hasToSend (W (11 + 10 * s + i)) = 0 ∨ ¬ W (11 + 10 * r + j) 7 = 0) → (n (174 * s + 154 + 10 * i) = -1 ∨ n (174 * s + 154 + 10 * i + 2) ≤ 0 ∨ ¬ n (174 * r + 154 + 10 * j + 7) = 0) → OjJ x (nI s) (nI i) s r (11 + 10 * s + i) (11 + 10 * r + j) W ∧ OX10_goes (nI k) f joins n ∧ ∃ W' f' n', jJ (nI s) (nI i) s r (11 + 10 * s + i) (11 + 10 * r + j) W = tJ W' ∧ FX10_goes (nI k) f joins n = (0, f', n') ∧ PJ W W' f f' n n' (11 + 10 * s + i) (11 + 10 * r + j) T := by
        intro q1 q2
        obtain ⟨t1, t2, W', f', n', t3, t4, t5⟩ := p_tail (x := x) hx hk hf hs hi hr hj e1 e2 h hD hT hI
        obtain ⟨u1, u2⟩ := gA q2
        refine ⟨fun _ _ => ?_, u1 t2, W', f', n', eJ.trans ?_, u2.trans t4, t5⟩
        · by_cases c : FX2_hasToSend (W (11 + 10 * s + i)) = 0
          · exact ⟨fun _ => t1, fun q => absurd c q⟩
          · have c7 := q1.resolve_left c
            exact ⟨fun q => absurd q c, fun _ => ⟨fun q => absurd q c7, fun _ => t1⟩⟩
        · by_cases c : FX2_hasToSend (W (11 + 10 * s + i)) = 0
          · exact (if_pos c).trans t3
          · have c7 := q1.resolve_left c
            exact (if_neg c).trans ((if_neg c7).trans t3)
      by_cases c0 : W (11 + 10 * s + i) 0 = -1
      · exact none (Or.inl (if_pos c0)) (Or.inl (n0.trans c0))
      · have n2 := lk2 h hs hi c0
        by_cases c2 : W (11 + 10 * s + i) 2 ≤ 0
        · exact none (Or.inl ((if_neg c0).trans (if_pos c2))) (Or.inr (Or.inl (by rw [n2]; exact c2)))
        · by_cases c7 : W (11 + 10 * r + j) 7 = 0
          · have ch : ¬ FX2_hasToSend (W (11 + 10 * s + i)) = 0 := fun q => z10 (((if_neg c0).trans (if_neg c2)).symm.trans q)
            obtain ⟨gC, gD⟩ := gB (by rw [n0]; exact c0) (by rw [n2]; exact c2) (by rw [n7]; exact c7)
            obtain ⟨v, hv, l1, l2, l3, l4, l5⟩ := s_out hs hi (h s hs) c0 c2
            have p1 : n (174 * s + 154 + 10 * i + 1) = nI v := by rw [← l2]; exact congrArg n (by omega)
            obtain ⟨q1, q2⟩ := p_in (f := f) (n := n) (x := 174 * s + 154 + 10 * i) (y := 174 * r + 154 + 10 * j) hk hs hi hr hj e1 e2 (by omega) (by omega) (by omega) (by omega) (by omega) (by omega) hv p1
            rw [lk9 h hr hj] at q1 q2
            obtain ⟨N1, hN1⟩ : ∃ N1, N1 = emb (174 * s) n (upd (upd (fun k => n (174 * s + k)) (155 + 10 * i) (W (11 + 10 * s + i) 1 + 1)) (156 + 10 * i) (W (11 + 10 * s + i) 2 - 1)) := ⟨_, rfl⟩
            have eN1 : upd (upd n (174 * s + 154 + 10 * i + 1) (n (174 * s + 154 + 10 * i + 1) + 1)) (174 * s + 154 + 10 * i + 2) (n (174 * s + 154 + 10 * i + 2) - 1) = N1 := by
              rw [hN1, p1, ← l1, n2, ← emb_ui (j := 174 * s + 154 + 10 * i + 2) (k := 156 + 10 * i) (by omega) (by omega), ← emb_ui (j := 174 * s + 154 + 10 * i + 1) (k := 155 + 10 * i) (by omega) (by omega), emb_self]
            have hW1 : ∀ c, c < 4 + 10 * s ∨ 13 + 10 * s ≤ c → jOut W (11 + 10 * s + i) c = W c := fun c hc => jOut_o (by omega)
            have h1 : RW2 (jOut W (11 + 10 * s + i)) N1 := by
              rw [hN1]
              exact RW2_set h hs hW1 l5
            have hN1k : ∀ k, 348 ≤ k → N1 k = n k := fun k hk => by
              rw [hN1]
              exact emb_out (by omega)
            have ew : wIn (174 * s + 154 + 10 * i) (174 * r + 154 + 10 * j) (174 * s + v) n = emb (174 * r) N1 (gIn j (W (6 + 10 * s) v) (fun k => N1 (174 * r + k))) := by
              rw [wIn_e (by omega) (by omega), eN1, show n (174 * s + v) = W (6 + 10 * s) v from l4]
              unfold gIn
              rw [← emb_ui (j := 174 * r + 154 + 10 * j + 9) (k := 163 + 10 * j) (by omega) (by omega), ← emb_ui (j := 174 * r + 154 + 10 * j + 7) (k := 161 + 10 * j) (by omega) (by omega), ← emb_ui (j := 174 * r + 154 + 10 * j + 8) (k := 162 + 10 * j) (by omega) (by omega), emb_self]
            have hb2 : 174 * r = 0 ∨ 174 * r = 174 := by omega
            have H : Hb (upd f 45 (nI (174 * r))) (174 * r) := ⟨pk_us, hb2⟩
            have eF : fb (upd f 45 (nI (174 * r))) 0 = upd f 45 (nI (174 * r)) := upd_self ((pk_un (by decide)).trans hf)
            have sF := s_fill (n := N1) (x := W (6 + 10 * s) v) H hr hj (h1 r hr)
            rw [eF] at sF
            obtain ⟨o1, o2, o3⟩ := sF
            have o9 : jOut W (11 + 10 * s + i) (11 + 10 * r + j) 9 = W (11 + 10 * r + j) 9 := by
              by_cases e : 11 + 10 * r + j = 11 + 10 * s + i
              · rw [e]
                unfold jOut
                rw [uw_s, pk_un (by decide), pk_un (by decide)]
              · rw [jOut_o e]
            rw [o9] at o2 o3
            have hcl : (W (11 + 10 * s + i) 1).toNatClampNeg = v := by rw [l1]; exact nI_clamp (by omega)
            -- what is left once the word has come in
            have key : ∀ f2 n2, FX10_comesIn (nI k) (nI (174 * s + 154 + 10 * i)) (nI (174 * r + 154 + 10 * j)) f joins n = (0, f2, n2) → OX10_comesIn (nI k) (nI (174 * s + 154 + 10 * i)) (nI (174 * r + 154 + 10 * j)) f joins n → (∀ k, k ≠ 45 → f2 k = f k) → RW2 (jFill (jOut W (11 + 10 * s + i)) r (11 + 10 * r + j) (W (6 + 10 * s) v)) n2 → (∀ k, 348 ≤ k → n2 k = n k) → OjJ x (nI s) (nI i) s r (11 + 10 * s + i) (11 + 10 * r + j) W ∧ OX10_goes (nI k) f joins n ∧ ∃ W' f' n', jJ (nI s) (nI i) s r (11 + 10 * s + i) (11 + 10 * r + j) W = tJ W' ∧ FX10_goes (nI k) f joins n = (0, f', n') ∧ PJ W W' f f' n n' (11 + 10 * s + i) (11 + 10 * r + j) T := by
              intro f2 n2 hc ho hf2 hR hn2
              have jc : ∀ c, isKp c ∨ c = 1 ∨ c = 2 → jFill (jOut W (11 + 10 * s + i)) r (11 + 10 * r + j) (W (6 + 10 * s) v) c = W c := by
                intro c hc
                unfold isKp at hc
                rw [jFill_o (by omega) (by omega), jOut_o (by omega)]
              have jl : ∀ c, isLi c → c ≠ 11 + 10 * r + j → jFill (jOut W (11 + 10 * s + i)) r (11 + 10 * r + j) (W (6 + 10 * s) v) c = jOut W (11 + 10 * s + i) c := by
                intro c hc hN
                unfold isLi at hc
                exact jFill_o (by omega) hN
              have jo : ∀ c, jOut W (11 + 10 * s + i) c 7 = W c 7 ∧ jOut W (11 + 10 * s + i) c 0 = W c 0 := by
                intro c
                by_cases e : c = 11 + 10 * s + i
                · rw [e]
                  unfold jOut
                  rw [uw_s]
                  exact ⟨(pk_un (by decide)).trans (pk_un (by decide)), (pk_un (by decide)).trans (pk_un (by decide))⟩
                · rw [jOut_o e]
                  exact ⟨rfl, rfl⟩
              have j0 : ∀ c, isLi c → jFill (jOut W (11 + 10 * s + i)) r (11 + 10 * r + j) (W (6 + 10 * s) v) c 0 = W c 0 := by
                intro c hc
                by_cases e : c = 11 + 10 * r + j
                · rw [e, jFill_N, pk_un (by decide), pk_un (by decide), pk_un (by decide)]
                  exact (jo _).2
                · rw [jl c hc e]
                  exact (jo c).2
              have hD2 : RD (jFill (jOut W (11 + 10 * s + i)) r (11 + 10 * r + j) (W (6 + 10 * s) v) 1) (jFill (jOut W (11 + 10 * s + i)) r (11 + 10 * r + j) (W (6 + 10 * s) v) 2) n2 T := by
                rw [jc 1 (by omega), jc 2 (by omega)]
                exact RD_c hD (Nat.le_refl _) (fun k hk => hn2 k (by omega))
              have hI2 : jFill (jOut W (11 + 10 * s + i)) r (11 + 10 * r + j) (W (6 + 10 * s) v) (11 + 10 * r + j) 7 = 1 → ¬ jFill (jOut W (11 + 10 * s + i)) r (11 + 10 * r + j) (W (6 + 10 * s) v) (11 + 10 * s + i) 0 = -1 := fun _ => by
                rw [j0 _ (isLi_of hs hi)]
                exact c0
              obtain ⟨t1, t2, W', f', n', t3, t4, t5, t6, t7, t8, t9, t10, t11, t12⟩ := p_tail (x := x) hx hk ((hf2 46 (by decide)).trans hf) hs hi hr hj e1 e2 hR hD2 hT hI2
              rw [hc] at gC gD
              refine ⟨fun _ _ => ?_, gC ⟨ho, t2⟩, W', f', n', eJ.trans ?_, gD.trans t4, t5, t6, t7.trans (hn2 348 (Nat.le_refl _)), fun k hk => (t8 k hk).trans (hf2 k hk), fun c hc => (t9 c hc).trans (jc c (Or.inl hc)), fun c hc hN => ?_, fun c hc hO => (t11 c hc hO).trans (j0 c hc), t12⟩
              · refine ⟨fun q => absurd q ch, fun _ => ⟨fun _ => ?_, fun q => absurd c7 q⟩⟩
                rw [hcl]
                refine ⟨?_, o1, t1⟩
                rw [l1]
                exact vp_in_nI hv (by decide)
              · refine (if_neg ch).trans ((if_pos c7).trans ?_)
                rw [hcl]
                exact t3
              · rw [t10 c hc hN, jl c hc hN]
                exact (jo c).1
            have hjW : ∀ c, c < 4 + 10 * r ∨ 13 + 10 * r ≤ c → jFill (jOut W (11 + 10 * s + i)) r (11 + 10 * r + j) (W (6 + 10 * s) v) c = jOut W (11 + 10 * s + i) c := fun c hc => jFill_o (by omega) (by omega)
            by_cases c9 : W (11 + 10 * r + j) 9 = -1
            · rw [if_pos c9, ew] at q2
              exact key f _ q2 (q1.mpr (fun q => absurd c9 q)) (fun _ _ => rfl) (RW2_set h1 hr hjW (o2 c9)) (fun k hk => (emb_out (by omega)).trans (hN1k k hk))
            · obtain ⟨y1, gz, y2, y3⟩ := o3 c9
              rw [if_neg c9, ew] at q2
              refine key (upd f 45 (nI (174 * r))) _ (q2.trans y2) (q1.mpr (fun _ => ?_)) (fun k hk => pk_un hk) (RW2_set h1 hr hjW y3) (fun k hk => (emb_out (by omega)).trans (hN1k k hk))
              rw [ew]
              exact y1
          · exact none (Or.inr c7) (Or.inr (Or.inr (by rw [n7]; exact c7)))
    · have fb' : ¬ FX3_isHalted (W (4 + 10 * r)) = 0 := fun q => z10 ((if_neg b).symm.trans q)
      obtain ⟨u1, u2⟩ := g1 (Or.inr (hb.trans (vb.resolve_left b)))
      exact ⟨fun _ q => absurd q fb', u1, W, f, n, (if_pos fa).trans (if_neg fb'), u2, stay⟩
  · have fa : ¬ FX3_isHalted (W (4 + 10 * s)) = 0 := fun q => z10 ((if_neg a).symm.trans q)
    obtain ⟨u1, u2⟩ := g1 (Or.inl (ha.trans (va.resolve_left a)))
    exact ⟨fun q => absurd q fa, u1, W, f, n, if_neg fa, u2, stay⟩
end JNW
