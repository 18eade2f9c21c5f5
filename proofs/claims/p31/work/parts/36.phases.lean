theorem s_rem2 {a : Nat} (h : a < 2147483648) : wk_rem (nI a) 2 = nI (a % 2) := pk_rem (d := 2) h (by omega) (by omega)
set_option maxHeartbeats 2000000 in
/-- a room pays for a tick -/
theorem j_pay {L C : wk_T} {n w t T r : Nat} {told : Int64} (h : s_S L C n w t T) (hr : r < n) : ∃ L' C', (∀ f, f_L_tick_272 (f + 1) told (nI r) L = f_L_tick_272 f told (nI (r + 1)) L') ∧ (∀ f, f_X0_passTick_52 0 (f + 1) (nI r) C = f_X0_passTick_52 0 f (nI (r + 1)) C') ∧ s_S L' C' n w t T ∧ s_l L L' ∧ s_c C C' ∧ (∀ i, C' 6 0 i 10 = C 6 0 i 10) := by
  obtain ⟨⟨g1, g2, g3, gT, g4, g5, g6, g7, g8, g9, g10, g11⟩, hR, hZ, hU⟩ := id h
  obtain ⟨⟨⟨a0, a1, a2, a3, a4, a5, a6, a7⟩, ⟨b0, b3, b4, b5, b6, b7⟩, ⟨e0, e1, e2, e3, e4⟩, c1, c2, c3⟩, ho⟩ := hR r hr
  obtain ⟨-, -, -, st, st1, st2, -⟩ := id ho
  have hL : ∀ f, f_L_tick_272 (f + 1) told (nI r) L = (if L 16 0 0 (8 * r) = 0 then f_L_tick_314 (f_L_tick_272 f) told (nI r) (L 16 0 0 (8 * r)) (4 * nI r) 3 L else if L 16 0 0 (8 * r) = 2 then f_L_tick_314 (f_L_tick_272 f) told (nI r) (L 16 0 0 (8 * r)) (4 * nI r) 2 L else f_L_tick_314 (f_L_tick_272 f) told (nI r) (L 16 0 0 (8 * r)) (4 * nI r) 1 L) := fun f => by
    rw [f_L_tick_272, g4, if_neg (show ¬ nI n ≤ nI r by rw [s_leI (by omega) (by omega)]; omega)]
    simp (disch := omega) only [s_m8, s_gi, s_gj, s_cl, s_lt_d]
  have hC : ∀ f, f_X0_passTick_52 0 (f + 1) (nI r) C = wk_cl (f_X2_payForTick 0 r C) (fun _ M4 => f_X0_passTick_52 0 f (nI (r + 1)) M4) := fun f => by
    rw [f_X0_passTick_52, g5, if_neg (show ¬ nI n ≤ nI r by rw [s_leI (by omega) (by omega)]; omega)]
    simp (disch := omega) only [s_gi, s_gj, s_cl, s_lt_d, s_a1]
  have put : ∀ (k j : Nat), k < 4 → j < 5 → (k = 1 ∨ k = 2 ∨ k = 3) → s_S (wk_up L 17 0 0 (4 * r + k) (L 17 0 0 (4 * r + k) + C 7 0 r j)) (wk_up C 8 0 r k (C 8 0 r k + C 7 0 r j)) n w t T := by
    intro k j hk hj hk2
    refine s_S_room h hr (Nat.le_refl _) gT (fun s => ?_) (fun s => ?_) (fun s => ?_) (fun s hs => ?_) (fun s hs1 hs2 hs3 => ?_) (fun kk i hkk => ?_) ?_ ?_
    · simp (disch := omega) only [u_n]
    · simp (disch := omega) only [u_n]
    · simp (disch := omega) only [u_n]
    · simp (disch := omega) only [u_n]
    · simp (disch := omega) only [u_n]
    · simp (disch := omega) only [u_r]
    · unfold s_R
      rcases hk2 with rfl | rfl | rfl
      · simp (disch := omega) only [u_e, u_n]
        exact ⟨⟨a0, a1, a2, a3, a4, a5, a6, a7⟩, ⟨b0, b3, b4, b5, b6, b7⟩, ⟨e0, by rw [e1], e2, e3, e4⟩, c1, c2, c3⟩
      · simp (disch := omega) only [u_e, u_n]
        exact ⟨⟨a0, a1, a2, a3, a4, a5, a6, a7⟩, ⟨b0, b3, b4, b5, b6, b7⟩, ⟨e0, e1, by rw [e2], e3, e4⟩, c1, c2, c3⟩
      · simp (disch := omega) only [u_e, u_n]
        exact ⟨⟨a0, a1, a2, a3, a4, a5, a6, a7⟩, ⟨b0, b3, b4, b5, b6, b7⟩, ⟨e0, e1, e2, by rw [e3], e4⟩, c1, c2, c3⟩
    · unfold s_O at ho ⊢
      simp (disch := omega) only [u_e, u_n]
      exact ho
  rcases (show st = 0 ∨ st = 1 ∨ st = 2 ∨ st = 3 by omega) with rfl | rfl | rfl | rfl
  · refine ⟨_, _, fun f => ?_, fun f => ?_, put 3 4 (by omega) (by omega) (by omega), s_l.up (by omega), s_c.up (by omega), fun i => u_n (by omega)⟩
    · rw [hL f, if_pos (show L 16 0 0 (8 * r) = 0 from st2), st2]
      unfold f_L_tick_314 f_L_tick_353 f_L_tick_355
      simp (disch := omega) only [s_m4, s_m8, s_a3, s_a5, s_gi, s_gj, s_cl, s_mu_d, s_lt_d, s_a1]
      rw [if_neg (show ¬ nI 0 = 1 by decide), if_pos (show nI 0 = 0 from rfl), a5]
    · rw [hC f]
      unfold f_X2_payForTick
      rw [← b0, if_pos (show L 16 0 0 (8 * r) = 0 from st2), s_mu_d, s_cl_d]
  · refine ⟨wk_up L 17 0 0 (4 * r + 1) (L 17 0 0 (4 * r + 1) + 0), C, fun f => ?_, fun f => ?_, ?_, s_l.up (by omega), s_c.rf, fun i => rfl⟩
    · rw [hL f, st2, if_neg (show ¬ nI 1 = 0 by decide), if_neg (show ¬ nI 1 = 2 by decide)]
      unfold f_L_tick_314 f_L_tick_355
      simp (disch := omega) only [s_m4, s_m8, s_a1, s_gi, s_gj, s_cl, s_mu_d, s_lt_d]
      rw [if_pos (show nI 1 = 1 from rfl)]
    · rw [hC f]
      unfold f_X2_payForTick
      rw [← b0, st2, if_neg (show ¬ nI 1 = 0 by decide), if_pos (show nI 1 = 1 from rfl), s_cl_d]
    · rw [Int32.add_zero]
      have hsame : wk_up L 17 0 0 (4 * r + 1) (L 17 0 0 (4 * r + 1)) = L := by
        funext k c i s
        by_cases q : k = 17 ∧ c = 0 ∧ i = 0 ∧ s = 4 * r + 1
        · obtain ⟨rfl, rfl, rfl, rfl⟩ := q
          exact u_e rfl rfl rfl rfl
        · exact u_n q
      rw [hsame]
      exact h
  · refine ⟨_, _, fun f => ?_, fun f => ?_, put 2 3 (by omega) (by omega) (by omega), s_l.up (by omega), s_c.up (by omega), fun i => u_n (by omega)⟩
    · rw [hL f, st2, if_neg (show ¬ nI 2 = 0 by decide), if_pos (show nI 2 = 2 from rfl)]
      unfold f_L_tick_314 f_L_tick_353 f_L_tick_355
      simp (disch := omega) only [s_m4, s_m8, s_a2, s_a4, s_gi, s_gj, s_cl, s_mu_d, s_lt_d, s_a1]
      rw [if_neg (show ¬ nI 2 = 1 by decide), if_neg (show ¬ nI 2 = 0 by decide), if_pos (show nI 2 = 2 from rfl), a4]
    · rw [hC f]
      unfold f_X2_payForTick
      rw [← b0, st2, if_neg (show ¬ nI 2 = 0 by decide), if_neg (show ¬ nI 2 = 1 by decide), if_pos (show nI 2 = 2 from rfl), s_mu_d, s_cl_d]
  · refine ⟨_, _, fun f => ?_, fun f => ?_, put 1 2 (by omega) (by omega) (by omega), s_l.up (by omega), s_c.up (by omega), fun i => u_n (by omega)⟩
    · rw [hL f, st2, if_neg (show ¬ nI 3 = 0 by decide), if_neg (show ¬ nI 3 = 2 by decide)]
      unfold f_L_tick_314 f_L_tick_353 f_L_tick_355
      simp (disch := omega) only [s_m4, s_m8, s_a1, s_a3, s_gi, s_gj, s_cl, s_mu_d, s_lt_d]
      rw [if_neg (show ¬ nI 3 = 1 by decide), if_neg (show ¬ nI 3 = 0 by decide), if_neg (show ¬ nI 3 = 2 by decide), a3]
    · rw [hC f]
      unfold f_X2_payForTick
      rw [← b0, st2, if_neg (show ¬ nI 3 = 0 by decide), if_neg (show ¬ nI 3 = 1 by decide), if_neg (show ¬ nI 3 = 2 by decide), if_pos (show nI 3 = 3 from rfl), s_mu_d, s_cl_d]
set_option maxHeartbeats 4000000 in
/-- a room goes on -/
theorem j_goOn {L C : wk_T} {n w t T r : Nat} {told : Int64} (h : s_S L C n w t T) (hr : r < n) : ∃ L' C', (∀ f, f_L_tick_366 (f + 1) told (nI r) L = f_L_tick_366 f told (nI (r + 1)) L') ∧ f_X0_goOn 0 (nI r) C = some ((), C') ∧ s_S L' C' n w t T ∧ s_l L L' ∧ s_c C C' ∧ (∀ i, C' 6 0 i 10 = C 6 0 i 10) := by
  obtain ⟨⟨g1, g2, g3, gT, g4, g5, g6, g7, g8, g9, g10, g11⟩, hR, hZ, hU⟩ := id h
  obtain ⟨⟨⟨a0, a1, a2, a3, a4, a5, a6, a7⟩, ⟨b0, b3, b4, b5, b6, b7⟩, ⟨e0, e1, e2, e3, e4⟩, c1, c2, c3⟩, ⟨kd, kd1, kd2, kd3⟩, ⟨wt, wt1, wt2, wt3⟩, nd, st, st1, st2, ⟨bg, bg1, bg2⟩, ⟨wk, wk1, wk2, wk3⟩, lf⟩ := hR r hr
  have hni : ¬ nI n ≤ nI r := by rw [s_leI (by omega) (by omega)]; omega
  have room : ∀ (v1 v2 v0 : Int32) (q8 q9 q7 : Int32) (st' : Nat), st' < 4 → v0 = nI st' → q7 = nI st' → (0 < st' → 0 < st) → ((st' = 1 ∨ st' = 3) → v1 = q8 ∧ ∃ lf, 1 ≤ lf ∧ lf ≤ 9 ∧ v1 = nI lf) → (st' = 2 → v2 = q9) →
      ∀ (L' C' : wk_T), (∀ k c i s, ¬ (k = 16 ∧ c = 0 ∧ i = 0 ∧ 8 * r ≤ s ∧ s ≤ 8 * r + 2) → L' k c i s = L k c i s) → L' 16 0 0 (8 * r) = v0 → L' 16 0 0 (8 * r + 1) = v1 → L' 16 0 0 (8 * r + 2) = v2 → (∀ k c i s, ¬ (k = 6 ∧ c = 0 ∧ i = r ∧ 7 ≤ s ∧ s ≤ 9) → C' k c i s = C k c i s) → C' 6 0 r 7 = q7 → C' 6 0 r 8 = q8 → C' 6 0 r 9 = q9 → s_S L' C' n w t T := by
    intro v1 v2 v0 q8 q9 q7 st' hs1 hs2 hs3 hs4 hs5 hs6 L' C' f1 f2 f3 f4 f5 f6 f7 f8
    refine s_S_room h hr (Nat.le_refl _) gT (fun s => f1 _ _ _ _ (by omega)) (fun s => f1 _ _ _ _ (by omega)) (fun s => f1 _ _ _ _ (by omega)) (fun s hs => f1 _ _ _ _ (by omega)) (fun s _ _ _ => f1 _ _ _ _ (by omega)) (fun kk i hkk => funext fun s => f5 _ _ _ _ (by omega)) ?_ ?_
    · unfold s_R
      rw [f2, f3, f4, f6, f7, f8]
      simp (disch := omega) only [f1, f5]
      refine ⟨⟨a0, a1, a2, a3, a4, a5, a6, a7⟩, ⟨hs2.trans hs3.symm, b3, b4, b5, b6, b7⟩, ⟨e0, e1, e2, e3, e4⟩, fun z => ?_, fun z => ?_, c3⟩
      · rw [hs2, s_e1 (by omega), s_e3 (by omega)] at z
        exact (hs5 z).1
      · rw [hs2, s_e2 (by omega)] at z
        exact hs6 z
    · unfold s_O
      rw [f2, f3]
      simp (disch := omega) only [f1]
      exact ⟨⟨kd, kd1, kd2, kd3⟩, ⟨wt, wt1, wt2, wt3⟩, nd, st', hs1, hs2, ⟨bg, bg1, bg2⟩, ⟨wk, wk1, wk2, fun z => wk3 (hs4 z)⟩, fun z => (hs5 z).2⟩
  have odd : (st = 1 ∨ st = 3) → ∃ L' C', (∀ f, f_L_tick_366 (f + 1) told (nI r) L = f_L_tick_366 f told (nI (r + 1)) L') ∧ f_X0_goOn 0 (nI r) C = some ((), C') ∧ s_S L' C' n w t T ∧ s_l L L' ∧ s_c C C' ∧ (∀ i, C' 6 0 i 10 = C 6 0 i 10) := by
    intro ho
    obtain ⟨lf, lf1, lf2, lf3⟩ := lf ho
    have hb1 : C 6 0 r 8 = nI lf := by rw [← c1 (by rw [st2, s_e1 (by omega), s_e3 (by omega)]; exact ho)]; exact lf3
    have hsub : nI lf - 1 = nI (lf - 1) := by rw [show lf = (lf - 1) + 1 by omega, s_p1]; rfl
    have hLaw : ∀ f, f_L_tick_366 (f + 1) told (nI r) L = f_L_tick_366 f told (nI (r + 1)) (wk_up (wk_up (wk_up L 16 0 0 (8 * r + 1) (nI (lf - 1))) 16 0 0 (8 * r + 2) 0) 16 0 0 (8 * r) (if lf = 1 then 2 else nI st)) := fun f => by
      rw [f_L_tick_366, g4, if_neg hni]
      unfold f_L_tick_438 f_L_tick_514
      simp (disch := omega) only [s_m8, s_a1, s_a2, s_gi, s_gj, s_cl, s_mu_d, s_lt_d, u_e, u_n]
      rw [st2, if_pos (show wk_rem (nI st) 2 = 1 by rw [s_rem2 (by omega), s_e1 (by omega)]; omega), lf3, hsub]
      by_cases q : lf = 1
      · rw [if_pos (show nI (lf - 1) = 0 by rw [s_e0 (by omega)]; omega), if_pos q]
      · rw [if_neg (show ¬ nI (lf - 1) = 0 by rw [s_e0 (by omega)]; omega), if_neg q]
    have hst : (C 6 0 r 7 = 1 ∨ C 6 0 r 7 = 3) := by rw [← b0, st2, s_e1 (by omega), s_e3 (by omega)]; exact ho
    have hgo : f_X0_goOn 0 (nI r) C = wk_cl (f_X2_workOn 0 r C) (fun _ M2 => some ((), M2)) := by
      unfold f_X0_goOn f_X0_goOn_23
      simp (disch := omega) only [s_gi, s_gj, s_cl]
      by_cases q : C 6 0 r 7 = 1
      · rw [if_pos q]
      · rw [if_neg q, if_pos (hst.resolve_left q)]
    by_cases q : lf = 1
    · refine ⟨_, wk_up (wk_up (wk_up C 6 0 r 8 (nI (lf - 1))) 6 0 r 7 2) 6 0 r 9 0, hLaw, ?_, ?_, ((s_l.up (by omega)).tr (s_l.up (by omega))).tr (s_l.up (by omega)), ((s_c.up (by omega)).tr (s_c.up (by omega))).tr (s_c.up (by omega)), fun i => by simp (disch := omega) only [u_n]⟩
      · rw [hgo]
        unfold f_X2_workOn
        rw [hb1, hsub]
        simp (disch := omega) only [s_mu_d, u_e, u_n]
        rw [if_neg (show ¬ 0 < nI (lf - 1) by rw [q]; decide), s_cl_d]
      · refine room (nI (lf - 1)) 0 2 (nI (lf - 1)) 0 2 2 (by omega) rfl rfl (fun _ => by omega) (fun z => by omega) (fun _ => rfl) _ _ (fun k c i s hs => by simp (disch := omega) only [u_n]) ?_ ?_ ?_ (fun k c i s hs => by simp (disch := omega) only [u_n]) ?_ ?_ ?_
        · rw [if_pos q]; simp (disch := omega) only [u_e]
        · simp (disch := omega) only [u_e, u_n]
        · simp (disch := omega) only [u_e, u_n]
        · simp (disch := omega) only [u_e, u_n]
        · simp (disch := omega) only [u_e, u_n]
        · simp (disch := omega) only [u_e]
    · refine ⟨_, wk_up C 6 0 r 8 (nI (lf - 1)), hLaw, ?_, ?_, ((s_l.up (by omega)).tr (s_l.up (by omega))).tr (s_l.up (by omega)), s_c.up (by omega), fun i => by simp (disch := omega) only [u_n]⟩
      · rw [hgo]
        unfold f_X2_workOn
        rw [hb1, hsub]
        simp (disch := omega) only [s_mu_d, u_e, u_n]
        rw [if_pos (show 0 < nI (lf - 1) from (nI_ltI (a := 0) (by omega) (by omega)).mpr (by omega)), s_cl_d]
      · refine room (nI (lf - 1)) 0 (nI st) (nI (lf - 1)) (C 6 0 r 9) (C 6 0 r 7) st st1 rfl (by rw [← b0]; exact st2) (fun z => z) (fun _ => ⟨rfl, lf - 1, by omega, by omega, rfl⟩) (fun z => by omega) _ _ (fun k c i s hs => by simp (disch := omega) only [u_n]) ?_ ?_ ?_ (fun k c i s hs => by simp (disch := omega) only [u_n]) ?_ ?_ ?_
        · rw [if_neg q]; simp (disch := omega) only [u_e]
        · simp (disch := omega) only [u_e, u_n]
        · simp (disch := omega) only [u_e, u_n]
        · simp (disch := omega) only [u_n]
        · simp (disch := omega) only [u_e]
        · simp (disch := omega) only [u_n]
  rcases (show st = 0 ∨ (st = 1 ∨ st = 3) ∨ st = 2 by omega) with qs | qs | qs
  · refine ⟨L, C, fun f => ?_, ?_, h, s_l.rf, s_c.rf, fun _ => rfl⟩
    · rw [f_L_tick_366, g4, if_neg hni]
      unfold f_L_tick_514
      simp (disch := omega) only [s_m8, s_a1, s_gi, s_gj, s_cl, s_lt_d]
      rw [st2, qs, if_neg (show ¬ wk_rem (nI 0) 2 = 1 by decide), if_neg (show ¬ nI 0 = 2 by decide)]
    · unfold f_X0_goOn
      simp (disch := omega) only [s_gi, s_gj, s_cl]
      rw [← b0, st2, qs, if_neg (show ¬ nI 0 = 1 by decide), if_neg (show ¬ nI 0 = 3 by decide), if_neg (show ¬ nI 0 = 2 by decide)]
  · exact odd qs
  · subst qs
    have hidle : L 16 0 0 (8 * r + 2) = C 6 0 r 9 := c2 st2
    have h9 : s_S (wk_up L 16 0 0 (8 * r + 2) (C 6 0 r 9 + 1)) (wk_up C 6 0 r 9 (C 6 0 r 9 + 1)) n w t T := by
      refine room (L 16 0 0 (8 * r + 1)) (C 6 0 r 9 + 1) (nI 2) (C 6 0 r 8) (C 6 0 r 9 + 1) (C 6 0 r 7) 2 (by omega) rfl (by rw [← b0]; exact st2) (fun z => z) (fun z => by omega) (fun _ => rfl) _ _ (fun k c i s hs => by simp (disch := omega) only [u_n]) ?_ ?_ ?_ (fun k c i s hs => by simp (disch := omega) only [u_n]) ?_ ?_ ?_
      · simp (disch := omega) only [u_n]; exact st2
      · simp (disch := omega) only [u_n]
      · simp (disch := omega) only [u_e]
      · simp (disch := omega) only [u_n]
      · simp (disch := omega) only [u_n]
      · simp (disch := omega) only [u_e]
    have hself : ∀ M : wk_T, M 16 0 0 (8 * r) = 2 → wk_up M 16 0 0 (8 * r) 2 = M := by
      intro M hM
      funext k c i s
      by_cases q : k = 16 ∧ c = 0 ∧ i = 0 ∧ s = 8 * r
      · obtain ⟨rfl, rfl, rfl, rfl⟩ := q
        rw [hM]
        exact u_e rfl rfl rfl rfl
      · exact u_n q
    have h92 : wk_up L 16 0 0 (8 * r + 2) (C 6 0 r 9 + 1) 16 0 0 (8 * r) = 2 := by simp (disch := omega) only [u_n]; exact st2
    obtain ⟨z, z1, z2, z3⟩ := j_needed h9 hr
    have hLaw : ∀ f, f_L_tick_366 (f + 1) told (nI r) L = f_L_tick_366 f told (nI (r + 1)) (if ¬ C 6 0 r 5 ≤ 0 ∧ ¬ C 6 0 r 9 + 1 < C 6 0 r 5 ∧ z = 0 then wk_up (wk_up L 16 0 0 (8 * r + 2) (C 6 0 r 9 + 1)) 16 0 0 (8 * r) 0 else wk_up L 16 0 0 (8 * r + 2) (C 6 0 r 9 + 1)) := fun f => by
      rw [f_L_tick_366, g4, if_neg hni]
      unfold f_L_tick_512 f_L_tick_513 f_L_tick_514
      simp (disch := omega) only [s_m8, s_a1, s_a2, s_a3, s_gi, s_gj, s_cl, s_mu_d, s_lt_d, u_e, u_n]
      rw [st2, if_neg (show ¬ wk_rem (nI 2) 2 = 1 by decide), if_pos (show nI 2 = 2 from rfl), hidle, b3, hself _ h92]
      by_cases q1 : C 6 0 r 5 ≤ 0
      · rw [if_pos q1, if_neg (fun y => y.1 q1)]
      · rw [if_neg q1]
        by_cases q2 : C 6 0 r 9 + 1 < C 6 0 r 5
        · rw [if_pos q2, if_neg (fun y => y.2.1 q2)]
        · rw [if_neg q2, z2, s_cl_d]
          rcases z1 with rfl | rfl
          · rw [if_pos rfl, if_pos ⟨q1, q2, rfl⟩]
          · rw [if_neg (show ¬ (1 : Int32) = 0 by decide), if_neg (fun y => absurd y.2.2 (by decide)), hself _ h92]
    have hCls : f_X0_goOn 0 (nI r) C = some ((), if ¬ C 6 0 r 5 ≤ 0 ∧ ¬ C 6 0 r 9 + 1 < C 6 0 r 5 ∧ z = 0 then wk_up (wk_up C 6 0 r 9 (C 6 0 r 9 + 1)) 6 0 r 7 0 else wk_up C 6 0 r 9 (C 6 0 r 9 + 1)) := by
      unfold f_X0_goOn f_X2_isTimedOut
      simp (disch := omega) only [s_gi, s_gj, s_cl, s_mu_d, u_e, u_n]
      rw [← b0, st2, if_neg (show ¬ nI 2 = 1 by decide), if_neg (show ¬ nI 2 = 3 by decide), if_pos (show nI 2 = 2 from rfl)]
      by_cases q1 : C 6 0 r 5 ≤ 0
      · rw [if_pos q1, s_cl_d, if_pos rfl, if_neg (fun y => y.1 q1)]
      · rw [if_neg q1]
        by_cases q2 : C 6 0 r 9 + 1 < C 6 0 r 5
        · rw [if_pos q2, s_cl_d, if_pos rfl, if_neg (fun y => y.2.1 q2)]
        · rw [if_neg q2, s_cl_d, if_neg (show ¬ (1 : Int32) = 0 by decide), z3, s_cl_d]
          rcases z1 with rfl | rfl
          · rw [if_pos rfl, if_pos ⟨q1, q2, rfl⟩]
          · rw [if_neg (show ¬ (1 : Int32) = 0 by decide), if_neg (fun y => absurd y.2.2 (by decide))]
    by_cases q : ¬ C 6 0 r 5 ≤ 0 ∧ ¬ C 6 0 r 9 + 1 < C 6 0 r 5 ∧ z = 0
    · simp only [if_pos q] at hLaw hCls
      refine ⟨_, _, hLaw, hCls, ?_, (s_l.up (by omega)).tr (s_l.up (by omega)), (s_c.up (by omega)).tr (s_c.up (by omega)), fun i => by simp (disch := omega) only [u_n]⟩
      refine room (L 16 0 0 (8 * r + 1)) (C 6 0 r 9 + 1) 0 (C 6 0 r 8) (C 6 0 r 9 + 1) 0 0 (by omega) rfl rfl (fun z => by omega) (fun z => by omega) (fun z => by omega) _ _ (fun k c i s hs => by simp (disch := omega) only [u_n]) ?_ ?_ ?_ (fun k c i s hs => by simp (disch := omega) only [u_n]) ?_ ?_ ?_
      · simp (disch := omega) only [u_e]
      · simp (disch := omega) only [u_n]
      · simp (disch := omega) only [u_e, u_n]
      · simp (disch := omega) only [u_e]
      · simp (disch := omega) only [u_n]
      · simp (disch := omega) only [u_e, u_n]
    · simp only [if_neg q] at hLaw hCls
      exact ⟨_, _, hLaw, hCls, h9, s_l.up (by omega), s_c.up (by omega), fun i => by simp (disch := omega) only [u_n]⟩
