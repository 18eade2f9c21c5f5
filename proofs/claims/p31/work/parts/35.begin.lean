theorem s_beginC {C : wk_T} {r : Nat} {v1 v2 v3 : Int32} : ∃ C1, f_X2_begin 0 r v1 v2 v3 C = some ((), C1) ∧ C1 6 0 r 13 = v1 + v3 ∧ C1 6 0 r 10 = C 6 0 r 10 + 1 ∧ C1 6 0 r 11 = C 6 0 r 11 + (v1 - v2) ∧ C1 6 0 r 7 = 3 ∧ C1 6 0 r 8 = v3 ∧ (∀ s, s ≠ 7 → s ≠ 8 → s ≠ 10 → s ≠ 11 → s ≠ 13 → s ≠ 14 → C1 6 0 r s = C 6 0 r s) ∧ (¬ C 6 0 r 10 ≤ 0 → C1 6 0 r 14 = v1 - C 6 0 r 13) ∧ ∀ k c i, ¬ (k = 6 ∧ c = 0 ∧ i = r) → C1 k c i = C k c i := by
  unfold f_X2_begin
  by_cases q : C 6 0 r 10 ≤ 0
  · rw [if_pos q]
    unfold f_X2_begin_17
    simp only [s_mu_d]
    refine ⟨_, rfl, ?_, ?_, ?_, ?_, ?_, fun s h1 h2 h3 h4 h5 h6 => ?_, fun z => absurd q z, fun k c i hk => ?_⟩
    · simp (disch := omega) only [u_e, u_n]
    · simp (disch := omega) only [u_e, u_n]
    · simp (disch := omega) only [u_e, u_n]
    · simp (disch := omega) only [u_e, u_n]
    · simp (disch := omega) only [u_e]
    · simp (disch := omega) only [u_n]
    · simp (disch := omega) only [u_r]
  · rw [if_neg q]
    unfold f_X2_begin_17
    simp only [s_mu_d]
    refine ⟨_, rfl, ?_, ?_, ?_, ?_, ?_, fun s h1 h2 h3 h4 h5 h6 => ?_, fun _ => ?_, fun k c i hk => ?_⟩
    · simp (disch := omega) only [u_e, u_n]
    · simp (disch := omega) only [u_e, u_n]
    · simp (disch := omega) only [u_e, u_n]
    · simp (disch := omega) only [u_e, u_n]
    · simp (disch := omega) only [u_e]
    · simp (disch := omega) only [u_n]
    · simp (disch := omega) only [u_e, u_n]
    · simp (disch := omega) only [u_r]
set_option maxHeartbeats 2000000 in
/-- an awake room's due use begins -/
theorem j_begin {L C : wk_T} {n w t T r : Nat} {told : Int64} (h : s_S L C n w t T) (hr : r < n) (hT : T + 1 ≤ 1000000) : ∃ L' C' w' T' c lt, T ≤ T' ∧ T' ≤ T + 1 ∧ c ≤ 1 ∧ lt ≤ 1000000 ∧ (∀ k6 : Int64 → Int32 → wk_T → Option (Int64 × wk_T), f_L_tick_95 k6 told (nI r) L = k6 (told + lN (c + 1000 * lt)) (nI (r + 1)) L') ∧ f_X0_beginDueUse 0 (nI r) C = some ((), C') ∧ s_S L' C' n w' t T' ∧ s_l L L' ∧ s_c C C' ∧ s_B C' n = s_B C n + nI c := by
  obtain ⟨⟨g1, g2, g3, gT, g4, g5, g6, g7, g8, g9, g10, g11⟩, hR, hZ, hU⟩ := id h
  obtain ⟨⟨⟨a0, a1, a2, a3, a4, a5, a6, a7⟩, ⟨b0, b3, b4, b5, b6, b7⟩, ⟨e0, e1, e2, e3, e4⟩, c1, c2, c3⟩, ⟨kd, kd1, kd2, kd3⟩, ⟨wt, wt1, wt2, wt3⟩, nd, st, st1, st2, ⟨bg, bg1, bg2⟩, ⟨wk, wk1, wk2, wk3⟩, lf⟩ := hR r hr
  have nothing : (∀ k6 : Int64 → Int32 → wk_T → Option (Int64 × wk_T), f_L_tick_95 k6 told (nI r) L = f_L_tick_263 k6 told (nI r) L) → f_X0_beginDueUse 0 (nI r) C = some ((), C) → ∃ L' C' w' T' c lt, T ≤ T' ∧ T' ≤ T + 1 ∧ c ≤ 1 ∧ lt ≤ 1000000 ∧ (∀ k6 : Int64 → Int32 → wk_T → Option (Int64 × wk_T), f_L_tick_95 k6 told (nI r) L = k6 (told + lN (c + 1000 * lt)) (nI (r + 1)) L') ∧ f_X0_beginDueUse 0 (nI r) C = some ((), C') ∧ s_S L' C' n w' t T' ∧ s_l L L' ∧ s_c C C' ∧ s_B C' n = s_B C n + nI c := by
    intro q1 q2
    refine ⟨L, C, w, T, 0, 0, Nat.le_refl _, by omega, by omega, by omega, fun k6 => ?_, q2, h, s_l.rf, s_c.rf, ?_⟩
    · rw [q1]
      unfold f_L_tick_263
      rw [s_lt_d, s_a1, show told + lN (0 + 1000 * 0) = told from Int64.add_zero told]
    · rw [nI_0, Int32.add_zero]
  by_cases qs : st = 2
  · have hst : L 16 0 0 (8 * r) = 2 := by rw [st2, qs]; rfl
    have hst' : C 6 0 r 7 = 2 := by rw [← b0]; exact hst
    obtain ⟨x, x1, x2, ⟨x3, x4⟩ | ⟨k, tm, ln, k1, k2, k3, k4, k5, k6', k7, k8, k9, k10, k11⟩⟩ := j_due (v := 0) h hr (by omega)
    · refine nothing (fun k6 => ?_) ?_
      · unfold f_L_tick_95
        simp (disch := omega) only [s_m8, s_gi, s_gj, s_cl]
        rw [if_pos hst, show f_L_due (nI r) 0 L = some (0, L) from x4, s_cl_d, if_pos rfl]
      · unfold f_X0_beginDueUse
        simp (disch := omega) only [s_gi, s_gj, s_cl]
        rw [if_pos hst', x2, s_cl_d, x3, s_hasUseN, s_cl_d, if_pos rfl]
    · have hu : f_X0_hasUse 0 (nI k) C = some (1, C) := s_hasUse g7 k1 g2
      by_cases q : t < tm
      · refine nothing (fun k6 => ?_) ?_
        · unfold f_L_tick_95
          simp (disch := omega) only [s_m8, s_gi, s_gj, s_cl]
          rw [if_pos hst, show f_L_due (nI r) 0 L = _ from k11, if_pos (show t + 0 < tm by omega), s_cl_d, if_pos rfl]
        · unfold f_X0_beginDueUse
          simp (disch := omega) only [s_gi, s_gj, s_cl]
          rw [if_pos hst', x2, s_cl_d, k5, hu, s_cl_d, if_neg (show ¬ (1 : Int32) = 0 by decide)]
          simp (disch := omega) only [s_gi, s_gj, s_cl]
          rw [g9, k9, if_pos (show nI t < nI tm by rw [s_ltI (by omega) (by omega)]; exact q)]
      · obtain ⟨C1, y1, y2, y3, y4, y5, y6, y7, y8, y9⟩ := s_beginC (C := C) (r := r) (v1 := nI t) (v2 := nI tm) (v3 := nI ln)
        have hlate : nI t - nI tm = nI (t - tm) := pk_sub (by omega)
        have hlaw : ∃ L1, (∀ k6 : Int64 → Int32 → wk_T → Option (Int64 × wk_T), f_L_tick_95 k6 told (nI r) L = wk_cl (f_L_drop (nI k) L1) (fun _ M29 => f_L_tick_263 k6 (told + lN (1 + 1000 * (t - tm))) (nI r) M29)) ∧ s_S L1 C1 n w t (T + 1) ∧ s_l L L1 := by
          refine ⟨wk_up (wk_up (wk_up (wk_up (wk_up (wk_up L 16 0 0 (8 * r) 3) 16 0 0 (8 * r + 1) (nI ln)) 16 0 0 (8 * r + 5) (L 16 0 0 (8 * r + 5) + 1)) 16 0 0 (8 * r + 6) (L 16 0 0 (8 * r + 6) + nI (t - tm))) 17 0 0 (33 + 2 * r) (nI t - L 17 0 0 (32 + 2 * r))) 17 0 0 (32 + 2 * r) (nI t + nI ln), fun k6 => ?_, ?_, ?_⟩
          · unfold f_L_tick_95
            simp (disch := omega) only [s_m8, s_gi, s_gj, s_cl]
            rw [if_pos hst, show f_L_due (nI r) 0 L = _ from k11, if_neg (show ¬ t + 0 < tm by omega), s_cl_d, if_neg (show ¬ (1 : Int32) = 0 by decide), x1, s_cl_d, k5]
            simp (disch := omega) only [s_m8, s_m3, s_m2, s_a1, s_a2, s_a5, s_a6, s_32a, s_33a, s_gi, s_gj, s_cl, s_mu_d, s_lt_d, s_ll_d, u_e, u_n]
            rw [k7, g8, hlate, nI_l (by omega), show (1000 : Int64) * lN (t - tm) = lN (1000 * (t - tm)) from lN_mul 1000 (t - tm), show (1 : Int64) + lN (1000 * (t - tm)) = lN (1 + 1000 * (t - tm)) from lN_add 1 (1000 * (t - tm)), k8]
          · refine s_S_room h hr (by omega) hT (fun s => ?_) (fun s => ?_) (fun s => ?_) (fun s hs => ?_) (fun s hs1 hs2 hs3 => ?_) (fun kk i hk => ?_) ?_ ?_
            · simp (disch := omega) only [u_n]
            · simp (disch := omega) only [u_n]
            · simp (disch := omega) only [u_n]
            · simp (disch := omega) only [u_n]
            · simp (disch := omega) only [u_n]
            · exact y9 kk 0 i (by omega)
            · unfold s_R
              simp (disch := omega) only [u_e, u_n]
              rw [y2, y3, y4, y5, y6, y7 2 (by omega) (by omega) (by omega) (by omega) (by omega) (by omega), y7 3 (by omega) (by omega) (by omega) (by omega) (by omega) (by omega), y7 4 (by omega) (by omega) (by omega) (by omega) (by omega) (by omega), y7 5 (by omega) (by omega) (by omega) (by omega) (by omega) (by omega), y7 6 (by omega) (by omega) (by omega) (by omega) (by omega) (by omega), y7 12 (by omega) (by omega) (by omega) (by omega) (by omega) (by omega), y9 7 0 r (by omega), y9 8 0 r (by omega)]
              refine ⟨⟨a0, a1, a2, a3, a4, a5, a6, a7⟩, ⟨rfl, b3, b4, by rw [b5], by rw [b6, hlate], b7⟩, ⟨e0, e1, e2, e3, rfl⟩, fun _ => rfl, fun z => absurd z (by decide), fun z => ?_⟩
              rw [bg2, s_a1, s_l1 (by omega)] at z
              rw [y8 (by rw [← b5, bg2, s_l0 (by omega)]; omega), e4]
            · unfold s_O
              simp (disch := omega) only [u_e, u_n]
              exact ⟨⟨kd, kd1, kd2, kd3⟩, ⟨wt, wt1, wt2, wt3⟩, nd, 3, by omega, rfl, ⟨bg + 1, by omega, by rw [bg2, s_a1]⟩, ⟨wk, by omega, wk2, fun _ => wk3 (by omega)⟩, fun _ => ⟨ln, k3, k4, rfl⟩⟩
          · exact ((((((s_l.rf).tr (s_l.up (by omega))).tr (s_l.up (by omega))).tr (s_l.up (by omega))).tr (s_l.up (by omega))).tr (s_l.up (by omega))).tr (s_l.up (by omega))
        obtain ⟨L1, p1, p2, p3⟩ := hlaw
        obtain ⟨L2, C2, d1, d2, d3, d4, d5, d6⟩ := j_drop p2 k1
        refine ⟨L2, C2, w - 1, T + 1, 1, t - tm, by omega, Nat.le_refl _, Nat.le_refl _, by omega, fun k6 => ?_, ?_, d3, p3.tr d4, ?_, ?_⟩
        · rw [p1, d1, s_cl_d]
          unfold f_L_tick_263
          rw [s_lt_d, s_a1]
        · unfold f_X0_beginDueUse
          simp (disch := omega) only [s_gi, s_gj, s_cl]
          rw [if_pos hst', x2, s_cl_d, k5, hu, s_cl_d, if_neg (show ¬ (1 : Int32) = 0 by decide)]
          simp (disch := omega) only [s_gi, s_gj, s_cl]
          rw [g9, k9, if_neg (show ¬ nI t < nI tm by rw [s_ltI (by omega) (by omega)]; exact q), k10, y1, s_cl_d, d2, s_cl_d]
        · exact s_c.tr (fun kk c i hk => y9 kk c i (by omega)) d5
        · rw [s_B_same n (fun i _ => d6 i)]
          exact s_B_one n hr y3 (fun i hi hi2 => by rw [y9 6 0 i (by omega)])
  · refine nothing (fun k6 => ?_) ?_
    · unfold f_L_tick_95
      simp (disch := omega) only [s_m8, s_gi, s_gj, s_cl]
      rw [if_neg (show ¬ L 16 0 0 (8 * r) = 2 by rw [st2, s_e2 (by omega)]; exact qs)]
    · unfold f_X0_beginDueUse
      simp (disch := omega) only [s_gi, s_gj, s_cl]
      rw [if_neg (show ¬ C 6 0 r 7 = 2 by rw [← b0, st2, s_e2 (by omega)]; exact qs)]
/-- a room's first step of a tick -/
theorem j_stepA {L C : wk_T} {n w t T r : Nat} {told : Int64} (h : s_S L C n w t T) (hr : r < n) (hT : T + 2 ≤ 1000000) : ∃ L' C' w' T' c lt, T ≤ T' ∧ T' ≤ T + 2 ∧ c ≤ 1 ∧ lt ≤ 1000000 ∧ (∀ k6 : Int64 → Int32 → wk_T → Option (Int64 × wk_T), f_L_tick_18 k6 wk_fuel told (nI r) (nI r) L = k6 (told + lN (c + 1000 * lt)) (nI (r + 1)) L') ∧ (∀ f, f_X0_passTick_2 0 (f + 1) (nI r) C = f_X0_passTick_2 0 f (nI (r + 1)) C') ∧ s_S L' C' n w' t T' ∧ s_l L L' ∧ s_c C C' ∧ s_B C' n = s_B C n + nI c := by
  obtain ⟨⟨g1, g2, g3, gT, g4, g5, g6, g7, g8, g9, g10, g11⟩, hR, hZ, hU⟩ := id h
  obtain ⟨⟨-, ⟨b0, -⟩, -⟩, -⟩ := hR r hr
  have hhead : ∀ f, f_X0_passTick_2 0 (f + 1) (nI r) C = if C 6 0 r 7 = 0 then wk_cl (f_X0_isCalled 0 (nI r) C) (fun r4 M5 => if r4 = 0 then f_X0_passTick_39 0 (f_X0_passTick_2 0 f) (nI r) M5 else wk_cl (f_X0_soughtFor 0 (nI r) M5) (fun r7 M8 => wk_cl (f_X0_wakeIfPossible 0 r7 M8) (fun _ M10 => f_X0_passTick_39 0 (f_X0_passTick_2 0 f) (nI r) M10))) else f_X0_passTick_39 0 (f_X0_passTick_2 0 f) (nI r) C := fun f => by
    rw [f_X0_passTick_2, g5, if_neg (show ¬ nI n ≤ nI r by rw [s_leI (by omega) (by omega)]; omega)]
    simp (disch := omega) only [s_gi, s_gj, s_cl]
  obtain ⟨z, z1, z2, z3⟩ := j_called h hr
  have direct : (∀ k6 : Int64 → Int32 → wk_T → Option (Int64 × wk_T), f_L_tick_18 k6 wk_fuel told (nI r) (nI r) L = f_L_tick_95 k6 told (nI r) L) → (∀ f, f_X0_passTick_2 0 (f + 1) (nI r) C = f_X0_passTick_39 0 (f_X0_passTick_2 0 f) (nI r) C) → ∃ L' C' w' T' c lt, T ≤ T' ∧ T' ≤ T + 2 ∧ c ≤ 1 ∧ lt ≤ 1000000 ∧ (∀ k6 : Int64 → Int32 → wk_T → Option (Int64 × wk_T), f_L_tick_18 k6 wk_fuel told (nI r) (nI r) L = k6 (told + lN (c + 1000 * lt)) (nI (r + 1)) L') ∧ (∀ f, f_X0_passTick_2 0 (f + 1) (nI r) C = f_X0_passTick_2 0 f (nI (r + 1)) C') ∧ s_S L' C' n w' t T' ∧ s_l L L' ∧ s_c C C' ∧ s_B C' n = s_B C n + nI c := by
    intro q1 q2
    obtain ⟨L', C', w', T', c, lt, x1, x2, x3, x4, x5, x6, x7, x8, x9, x10⟩ := j_begin (told := told) h hr (by omega)
    refine ⟨L', C', w', T', c, lt, x1, by omega, x3, x4, fun k6 => (q1 k6).trans (x5 k6), fun f => ?_, x7, x8, x9, x10⟩
    rw [q2 f]
    unfold f_X0_passTick_39
    rw [x6, s_cl_d, s_lt_d, s_a1]
  by_cases qs : L 16 0 0 (8 * r) = 0
  · rcases z1 with rfl | rfl
    · refine direct (fun k6 => ?_) (fun f => ?_)
      · show f_L_tick_18 k6 (99 + 1) told (nI r) (nI r) L = _
        rw [f_L_tick_18, z2, s_cl_d, if_pos rfl]
      · rw [hhead f, if_pos (by rw [← b0]; exact qs), z3, s_cl_d, if_pos rfl]
    · obtain ⟨L1, C1, T1, sg, x1, x2, x3, x4, x5, x6, x7, x8, x9⟩ := j_chain h hr (by omega) z2 r hr wk_fuel wk_fuel 0 (by show r + 3 ≤ 100; omega) (by show r + 1 ≤ 100; omega) (by omega)
      obtain ⟨L', C', w', T', c, lt, y1, y2, y3, y4, y5, y6, y7, y8, y9, y10⟩ := j_begin (told := told) x6 hr (by omega)
      refine ⟨L', C', w', T', c, lt, by omega, by omega, y3, y4, fun k6 => (x3 k6 told).trans (y5 k6), fun f => ?_, y7, x7.tr y8, x8.tr y9, ?_⟩
      · rw [hhead f, if_pos (by rw [← b0]; exact qs), z3, s_cl_d, if_neg (show ¬ (1 : Int32) = 0 by decide)]
        unfold f_X0_soughtFor
        rw [show f_X0_soughtFor_4 0 wk_fuel (nI r) 0 C = some (sg, C) from x4, s_cl_d, x5, s_cl_d]
        unfold f_X0_passTick_39
        rw [y6, s_cl_d, s_lt_d, s_a1]
      · rw [y10, s_B_same n (fun i _ => x9 i)]
  · refine direct (fun k6 => ?_) (fun f => ?_)
    · show f_L_tick_18 k6 (99 + 1) told (nI r) (nI r) L = _
      rw [f_L_tick_18, z2, s_cl_d]
      rcases z1 with rfl | rfl
      · rw [if_pos rfl]
      · rw [if_neg (show ¬ (1 : Int32) = 0 by decide), if_neg (show ¬ nI r < 0 from s_neg (by omega))]
        simp (disch := omega) only [s_m8, s_gi, s_gj, s_cl]
        rw [if_neg qs]
    · rw [hhead f, if_neg (by rw [← b0]; exact qs)]
