theorem s_l0 {a : Nat} (ha : a < 2147483648) : (nI a ≤ 0) = (a ≤ 0) := s_leI (b := 0) ha (by omega)
theorem s_l1 {a : Nat} (ha : a < 2147483648) : (nI a ≤ 1) = (a ≤ 1) := s_leI (b := 1) ha (by omega)
theorem s_e0 {a : Nat} (ha : a < 2147483648) : (nI a = 0) = (a = 0) := s_eqI (b := 0) ha (by omega)
theorem s_e1 {a : Nat} (ha : a < 2147483648) : (nI a = 1) = (a = 1) := s_eqI (b := 1) ha (by omega)
theorem s_e2 {a : Nat} (ha : a < 2147483648) : (nI a = 2) = (a = 2) := s_eqI (b := 2) ha (by omega)
theorem s_e3 {a : Nat} (ha : a < 2147483648) : (nI a = 3) = (a = 3) := s_eqI (b := 3) ha (by omega)
theorem s_t2 {a : Nat} (ha : a < 2147483648) : (nI a < 2) = (a < 2) := s_ltI (b := 2) ha (by omega)
theorem s_hasUse {C : wk_T} {w k : Nat} (h : C 0 0 0 6 = nI w) (hk : k < w) (hw : w ≤ 12) : f_X0_hasUse 0 (nI k) C = some (1, C) := by
  unfold f_X0_hasUse
  rw [if_neg (s_neg (by omega)), h, if_neg (by rw [s_leI (by omega) (by omega)]; omega)]
theorem s_hasUseN {C : wk_T} : f_X0_hasUse 0 (-1) C = some (0, C) := by
  unfold f_X0_hasUse
  rw [if_pos (by decide)]
theorem s_hasRoom {C : wk_T} {n r : Nat} (h : C 0 0 0 1 = nI n) (hr : r < n) (hn : n ≤ 8) : f_X0_hasRoom 0 (nI r) C = some (1, C) := by
  unfold f_X0_hasRoom
  rw [if_neg (s_neg (by omega)), h, if_neg (by rw [s_leI (by omega) (by omega)]; omega)]
/-- what behind the due use calls a room: its gap -/
theorem j_gap {L C : wk_T} {n w t T r : Nat} (h : s_S L C n w t T) (hr : r < n) : ∃ z : Int32, (z = 0 ∨ z = 1) ∧ (∀ s2 s3, f_L_due s2 s3 L = some (0, L) → f_L_called_31 (nI r) s2 s3 L = some (z, L)) ∧ f_X0_isCalled_59 0 r C = some (z, C) := by
  obtain ⟨⟨g1, g2, g3, gT, g4, g5, g6, g7, g8, g9, g10, g11⟩, hR, hZ, hU⟩ := h
  obtain ⟨⟨⟨a0, a1, a2, a3, a4, a5, a6, a7⟩, ⟨b0, b3, b4, b5, b6, b7⟩, ⟨e0, e1, e2, e3, e4⟩, c1, c2, c3⟩, ⟨kd, kd1, kd2, kd3⟩, ⟨wt, wt1, wt2, wt3⟩, nd, st, st1, st2, ⟨bg, bg1, bg2⟩, wk, lf⟩ := hR r hr
  refine ⟨if C 6 0 r 6 = 2 then (if bg < 2 then 0 else if st = 3 then 0 else if nI t = C 6 0 r 13 + C 6 0 r 14 - C 7 0 r 1 then 1 else 0) else 0, by split <;> (try split) <;> (try split) <;> (try split) <;> first | exact Or.inl rfl | exact Or.inr rfl, fun s2 s3 hd => ?_, ?_⟩
  · unfold f_L_called_31
    rw [hd, s_cl_d, if_pos rfl]
    simp (disch := omega) only [s_m8, s_m2, s_a1, s_a2, s_a4, s_a5, s_32a, s_33a, s_gi, s_gj, s_cl]
    rw [b4]
    by_cases q : C 6 0 r 6 = 2
    · rw [if_pos q, if_pos q, bg2]
      by_cases q1 : bg < 2
      · rw [if_pos (by rw [s_l1 (by omega)]; omega), if_pos q1]
      · rw [if_neg (by rw [s_l1 (by omega)]; omega), if_neg q1, st2]
        by_cases q2 : st = 3
        · rw [if_pos (by rw [s_e3 (by omega)]; exact q2), if_pos q2]
        · rw [if_neg (by rw [s_e3 (by omega)]; exact q2), if_neg q2, g8, e4, a2, c3 (by rw [bg2, s_l1 (by omega)]; omega)]
          split <;> rfl
    · rw [if_neg q, if_neg q]
  · unfold f_X0_isCalled_59 f_X2_isGuessedByGap
    rw [← b5, bg2, ← b0, st2, g9]
    by_cases q : C 6 0 r 6 = 2
    · rw [if_pos q, if_pos q]
      by_cases q1 : bg < 2
      · rw [if_pos (by rw [s_t2 (by omega)]; exact q1), if_pos q1, s_cl_d, s_gd (Or.inl rfl)]
      · rw [if_neg (by rw [s_t2 (by omega)]; exact q1), if_neg q1]
        by_cases q2 : st = 3
        · rw [if_pos (by rw [s_e3 (by omega)]; exact q2), if_pos q2, s_cl_d, s_gd (Or.inl rfl)]
        · rw [if_neg (by rw [s_e3 (by omega)]; exact q2), if_neg q2]
          split
          · rw [s_cl_d, s_gd (Or.inr rfl)]
          · rw [s_cl_d, s_gd (Or.inl rfl)]
    · rw [if_neg q, if_neg q, s_cl_d, s_gd (Or.inl rfl)]
theorem s_called1 {L : wk_T} {v s2 s3 : Int32} (h : f_L_due s2 s3 L = some (1, L)) : f_L_called_31 v s2 s3 L = some (1, L) := by
  unfold f_L_called_31
  rw [h, s_cl_d, if_neg (by decide)]
theorem j_called {L C : wk_T} {n w t T r : Nat} (h : s_S L C n w t T) (hr : r < n) : ∃ z : Int32, (z = 0 ∨ z = 1) ∧ f_L_called (nI r) L = some (z, L) ∧ f_X0_isCalled 0 (nI r) C = some (z, C) := by
  obtain ⟨z, z1, z2, z3⟩ := j_gap h hr
  obtain ⟨⟨g1, g2, g3, gT, g4, g5, g6, g7, g8, g9, g10, g11⟩, hR, hZ, hU⟩ := id h
  obtain ⟨⟨⟨a0, a1, a2, a3, a4, a5, a6, a7⟩, ⟨b0, b3, b4, b5, b6, b7⟩, ⟨e0, e1, e2, e3, e4⟩, c1, c2, c3⟩, ⟨kd, kd1, kd2, kd3⟩, ⟨wt, wt1, wt2, wt3⟩, nd, st, st1, st2, ⟨bg, bg1, bg2⟩, wk, lf⟩ := hR r hr
  have key : ∀ v, v ≤ 9 → (∃ x, f_X0_firstUseOf 0 (nI r) C = some (x, C) ∧ ((f_X0_hasUse 0 x C = some (0, C) ∧ f_L_due (nI r) (nI v) L = some (0, L)) ∨ ∃ q : Int32, (q = 0 ∨ q = 1) ∧ f_X0_hasUse 0 x C = some (1, C) ∧ f_L_due (nI r) (nI v) L = some (q, L) ∧ f_X0_isCalled_39 0 r x (nI v) C = some (if q = 1 then 1 else z, C))) := by
    intro v hv
    obtain ⟨x, x1, x2, ⟨x3, x4⟩ | ⟨k, tm, ln, k1, k2, k3, k4, k5, k6, k7, k8, k9, k10, k11⟩⟩ := j_due h hr hv
    · exact ⟨x, x2, Or.inl ⟨by rw [x3]; exact s_hasUseN, x4⟩⟩
    · refine ⟨x, x2, Or.inr ⟨if t + v < tm then 0 else 1, by split <;> first | exact Or.inl rfl | exact Or.inr rfl, by rw [k5]; exact s_hasUse g7 k1 g2, k11, ?_⟩⟩
      unfold f_X0_isCalled_39
      rw [k5, s_gi (by omega) (by omega), s_cl (by omega), k9, g9]
      have h9 : (nI t < nI tm - nI v) = (t + v < tm) := by
        rw [s_lt, s_sub (by omega) (by omega), s_ti (by omega)]
        exact propext ⟨fun q => by omega, fun q => by omega⟩
      by_cases q : t + v < tm
      · rw [if_pos (by rw [h9]; exact q), if_pos q, if_neg (by decide)]
        exact z3
      · rw [if_neg (by rw [h9]; exact q), if_neg q, if_pos rfl]
  unfold f_L_called f_X0_isCalled
  simp (disch := omega) only [s_m8, s_a2, s_a4, s_gi, s_gj, s_cl]
  rw [b4, wt3]
  by_cases q : C 6 0 r 6 = 1
  · obtain ⟨x, x1, ⟨x2, x3⟩ | ⟨q0, q1, x2, x3, x4⟩⟩ := key wt (by omega)
    · refine ⟨z, z1, ?_, ?_⟩
      · rw [if_pos q]; exact z2 _ _ x3
      · rw [x1, s_cl_d, x2, s_cl_d, if_pos rfl]; exact z3
    · rcases q1 with rfl | rfl
      · refine ⟨z, z1, ?_, ?_⟩
        · rw [if_pos q]; exact z2 _ _ x3
        · rw [x1, s_cl_d, x2, s_cl_d, if_neg (by decide), if_pos q, ← a2, wt3, x4, if_neg (by decide)]
      · refine ⟨1, Or.inr rfl, ?_, ?_⟩
        · rw [if_pos q]; exact s_called1 x3
        · rw [x1, s_cl_d, x2, s_cl_d, if_neg (by decide), if_pos q, ← a2, wt3, x4, if_pos rfl]
  · obtain ⟨x, x1, ⟨x2, x3⟩ | ⟨q0, q1, x2, x3, x4⟩⟩ := key 0 (by omega)
    · refine ⟨z, z1, ?_, ?_⟩
      · rw [if_neg q]; exact z2 _ _ x3
      · rw [x1, s_cl_d, x2, s_cl_d, if_pos rfl]; exact z3
    · rcases q1 with rfl | rfl
      · refine ⟨z, z1, ?_, ?_⟩
        · rw [if_neg q]; exact z2 _ _ x3
        · rw [x1, s_cl_d, x2, s_cl_d, if_neg (by decide), if_neg q]
          exact x4.trans (by rw [if_neg (by decide)])
      · refine ⟨1, Or.inr rfl, ?_, ?_⟩
        · rw [if_neg q]; exact s_called1 x3
        · rw [x1, s_cl_d, x2, s_cl_d, if_neg (by decide), if_neg q]
          exact x4.trans (by rw [if_pos rfl])
theorem j_ready {L C : wk_T} {n w t T r : Nat} (h : s_S L C n w t T) (hr : r < n) : ∃ z : Int32, (z = 1 ∨ (z = 0 ∧ ∃ j, j < r ∧ L 15 0 0 (8 * r + 6) = nI j)) ∧ f_L_ready (nI r) L = some (z, L) ∧ f_X0_isReady 0 (nI r) C = some (z, C) := by
  obtain ⟨⟨g1, g2, g3, gT, g4, g5, g6, g7, g8, g9, g10, g11⟩, hR, hZ, hU⟩ := id h
  obtain ⟨⟨⟨a0, a1, a2, a3, a4, a5, a6, a7⟩, -⟩, -, -, nd, -⟩ := hR r hr
  unfold f_L_ready f_X0_isReady
  simp (disch := omega) only [s_m8, s_a6, s_gi, s_gj, s_cl, s_lt_d]
  rw [← a6]
  rcases nd with nd | ⟨j, hj, nd⟩
  · refine ⟨1, Or.inl rfl, ?_, ?_⟩
    · rw [nd, if_pos (by decide)]
    · rw [nd, if_pos (by decide)]
  · obtain ⟨⟨-, ⟨b0, -⟩, -⟩, -, -, -, st, st1, st2, -⟩ := hR j (by omega)
    rw [nd]
    simp (disch := omega) only [s_m8, s_gi, s_gj, s_cl]
    rw [if_neg (s_neg (by omega)), if_neg (s_neg (by omega)), g5, if_pos (show nI j < nI n by rw [s_ltI (by omega) (by omega)]; omega), ← b0, st2]
    by_cases q : st ≤ 1
    · refine ⟨0, Or.inr ⟨rfl, j, hj, rfl⟩, ?_, ?_⟩
      · rw [if_pos (by rw [s_l1 (by omega)]; exact q)]
      · rw [if_neg (by rw [s_e2 (by omega)]; omega), if_neg (by rw [s_e3 (by omega)]; omega)]
    · refine ⟨1, Or.inl rfl, ?_, ?_⟩
      · rw [if_neg (by rw [s_l1 (by omega)]; exact q)]
      · by_cases q2 : st = 2
        · rw [if_pos (by rw [s_e2 (by omega)]; exact q2)]
        · rw [if_neg (by rw [s_e2 (by omega)]; exact q2), if_pos (by rw [s_e3 (by omega)]; omega)]
/-- how many rooms wake on a rail, both ways -/
theorem j_count {L C : wk_T} {n w t T r : Nat} {rl : Int32} (h : s_S L C n w t T) : ∀ (d i f1 f2 : Nat) (x : Int32), n - i = d → i ≤ n → d < f1 → d < f2 → ∃ x', f_L_can_17 f1 (nI r) x rl (nI i) L = f_L_can_17 1 (nI r) x' rl (nI n) L ∧ f_X0_railLetsWake_26 0 f2 rl x (nI i) C = f_X0_railLetsWake_26 0 1 rl x' (nI n) C := by
  obtain ⟨⟨g1, g2, g3, gT, g4, g5, g6, g7, g8, g9, g10, g11⟩, hR, hZ, hU⟩ := id h
  intro d
  induction d with
  | zero =>
    intro i f1 f2 x hd hi hf1 hf2
    obtain ⟨f1', rfl⟩ : ∃ f, f1 = f + 1 := ⟨f1 - 1, by omega⟩
    obtain ⟨f2', rfl⟩ : ∃ f, f2 = f + 1 := ⟨f2 - 1, by omega⟩
    have hin : i = n := by omega
    subst hin
    refine ⟨x, ?_, ?_⟩
    · rw [f_L_can_17, f_L_can_17, g4, if_pos (show nI i ≤ nI i from Int32.le_refl _), if_pos (show nI i ≤ nI i from Int32.le_refl _)]
    · rw [f_X0_railLetsWake_26, f_X0_railLetsWake_26, g5, if_pos (show nI i ≤ nI i from Int32.le_refl _), if_pos (show nI i ≤ nI i from Int32.le_refl _)]
  | succ d ih =>
    intro i f1 f2 x hd hi hf1 hf2
    obtain ⟨f1', rfl⟩ : ∃ f, f1 = f + 1 := ⟨f1 - 1, by omega⟩
    obtain ⟨f2', rfl⟩ : ∃ f, f2 = f + 1 := ⟨f2 - 1, by omega⟩
    obtain ⟨⟨⟨-, -, -, -, -, -, -, a7⟩, ⟨b0, -⟩, -⟩, -⟩ := hR i (by omega)
    have hni : ¬ nI n ≤ nI i := by rw [s_leI (by omega) (by omega)]; omega
    rw [f_L_can_17, f_X0_railLetsWake_26, g4, g5, if_neg hni, if_neg hni]
    simp (disch := omega) only [s_m8, s_a7, s_gi, s_gj, s_cl]
    rw [← a7, ← b0]
    by_cases q : L 15 0 0 (8 * i + 7) = rl
    · rw [if_pos q, if_pos q]
      by_cases q2 : L 16 0 0 (8 * i) = 1
      · rw [if_pos q2, if_pos q2]
        unfold f_L_can_58 f_X0_railLetsWake_66
        rw [s_lt_d, s_lt_d, s_lt_d, s_lt_d, s_a1]
        exact ih (i + 1) f1' f2' (x + 1) (by omega) (by omega) (by omega) (by omega)
      · rw [if_neg q2, if_neg q2]
        unfold f_L_can_57 f_L_can_58 f_X0_railLetsWake_66
        rw [s_lt_d, s_lt_d, s_lt_d, s_a1, Int32.add_zero]
        exact ih (i + 1) f1' f2' x (by omega) (by omega) (by omega) (by omega)
    · rw [if_neg q, if_neg q]
      unfold f_L_can_57 f_L_can_58 f_X0_railLetsWake_66
      rw [s_lt_d, s_lt_d, s_lt_d, s_a1, Int32.add_zero]
      exact ih (i + 1) f1' f2' x (by omega) (by omega) (by omega) (by omega)
theorem j_can {L C : wk_T} {n w t T r : Nat} (h : s_S L C n w t T) (hr : r < n) : ∃ st rd v : Int32, L 16 0 0 (8 * r) = st ∧ f_L_ready (nI r) L = some (rd, L) ∧ f_X0_isReady 0 (nI r) C = some (rd, C) ∧ (rd = 1 ∨ (rd = 0 ∧ ∃ j, j < r ∧ L 15 0 0 (8 * r + 6) = nI j)) ∧ (v = 0 ∨ v = 1) ∧ f_X0_railLetsWake 0 (nI r) C = some (v, C) ∧ f_L_can (nI r) L = some (if st = 0 ∧ rd = 1 ∧ v = 1 then 1 else 0, L) := by
  obtain ⟨⟨g1, g2, g3, gT, g4, g5, g6, g7, g8, g9, g10, g11⟩, hR, hZ, hU⟩ := id h
  obtain ⟨⟨⟨-, -, -, -, -, -, -, a7⟩, ⟨b0, -⟩, -⟩, ⟨kd, kd1, -, kd3⟩, -⟩ := hR r hr
  obtain ⟨rd, rd1, rd2, rd3⟩ := j_ready h hr
  have hc := j_count (r := r) (rl := L 15 0 0 (8 * r + 7)) h (n - 0) 0 wk_fuel wk_fuel 0 rfl (by omega) (by show n - 0 < 100; omega) (by show n - 0 < 100; omega)
  obtain ⟨x', c1, c2⟩ := hc
  have hcan : f_L_can (nI r) L = f_L_can_17 1 (nI r) x' (L 15 0 0 (8 * r + 7)) (nI n) L := by
    unfold f_L_can
    simp (disch := omega) only [s_m8, s_a7, s_gi, s_gj, s_cl, s_lt_d]
    exact c1
  rw [f_L_can_17, g4, if_pos (show nI n ≤ nI n from Int32.le_refl _)] at hcan
  simp (disch := omega) only [s_m8, s_gi, s_gj, s_cl] at hcan
  rw [rd2] at hcan
  have hrl : ∃ v : Int32, (v = 0 ∨ v = 1) ∧ f_X0_railLetsWake 0 (nI r) C = some (v, C) ∧ (if rd = 0 then some ((0 : Int32), L) else if L 15 0 0 (8 * r + 7) < 0 then some (0, L) else wk_gd (¬ ((3 + L 15 0 0 (8 * r + 7)) < 0 ∨ 5 ≤ (3 + L 15 0 0 (8 * r + 7)).toNatClampNeg)) (if L 14 0 0 ((3 + L 15 0 0 (8 * r + 7)).toNatClampNeg) ≤ x' then some (0, L) else some (1, L))) = some (if rd = 1 ∧ v = 1 then 1 else 0, L) := by
    have hu : f_X0_railLetsWake 0 (nI r) C = (if L 15 0 0 (8 * r + 7) < 0 then some (0, C) else if L 15 0 0 (8 * r + 7) < 2 then f_X0_railLetsWake_26 0 wk_fuel (L 15 0 0 (8 * r + 7)) 0 0 C else some (0, C)) := by
      unfold f_X0_railLetsWake
      simp (disch := omega) only [s_gi, s_gj, s_cl, s_lt_d]
      rw [← a7]
    rw [hu, show f_X0_railLetsWake_26 0 wk_fuel (L 15 0 0 (8 * r + 7)) 0 0 C = _ from c2]
    rcases kd3 with q | q
    · refine ⟨0, Or.inl rfl, ?_, ?_⟩
      · rw [q, if_pos (by decide)]
      · rw [q, if_pos (show (-1 : Int32) < 0 by decide), if_neg (show ¬ (rd = 1 ∧ (0 : Int32) = 1) from fun z => absurd z.2 (by decide))]
        split <;> rfl
    · rw [q, if_neg (s_neg (by omega)), if_pos (show nI kd < 2 by rw [s_t2 (by omega)]; exact kd1), f_X0_railLetsWake_26, g5, if_pos (show nI n ≤ nI n from Int32.le_refl _), s_3a, if_neg (show ¬ nI kd < 0 from s_neg (by omega))]
      simp (disch := omega) only [s_gi, s_gj, s_cl]
      have hlim : L 14 0 0 (3 + kd) = C 2 0 0 kd := by
        rcases (show kd = 0 ∨ kd = 1 by omega) with rfl | rfl
        · exact g10
        · exact g11
      rw [hlim]
      by_cases q2 : C 2 0 0 kd ≤ x'
      · refine ⟨0, Or.inl rfl, by rw [if_pos q2], ?_⟩
        rw [if_pos q2, if_neg (show ¬ (rd = 1 ∧ (0 : Int32) = 1) from fun z => absurd z.2 (by decide))]
        split <;> rfl
      · refine ⟨1, Or.inr rfl, by rw [if_neg q2], ?_⟩
        rw [if_neg q2]
        rcases rd1 with rfl | ⟨rfl, -⟩
        · rw [if_neg (by decide), if_pos ⟨rfl, rfl⟩]
        · rw [if_pos rfl, if_neg (fun z => absurd z.1 (by decide))]
  obtain ⟨v, v1, v2, v3⟩ := hrl
  refine ⟨_, rd, v, rfl, rd2, rd3, rd1, v1, v2, ?_⟩
  rw [hcan]
  by_cases q : L 16 0 0 (8 * r) = 0
  · rw [if_pos q, s_cl_d]
    refine v3.trans ?_
    by_cases q2 : rd = 1 ∧ v = 1
    · rw [if_pos q2, if_pos ⟨q, q2⟩]
    · rw [if_neg q2, if_neg (fun z => q2 z.2)]
  · rw [if_neg q, if_neg (fun z => q z.1)]
theorem s_neededL {L : wk_T} {n r : Nat} (hn : n ≤ 8) (g4 : L 14 0 0 0 = nI n) (hst : ∀ i, i < n → ∃ st, st < 4 ∧ L 16 0 0 (8 * i) = nI st) : ∀ (d i fuel : Nat) (x : Int32), n - i = d → i ≤ n → d < fuel → (x = 0 ∨ x = 1) → ∃ z : Int32, (z = 0 ∨ z = 1) ∧ f_L_needed_8 fuel (nI r) x (nI i) L = some (z, L) ∧ (z = 1 ↔ x = 1 ∨ ∃ j, i ≤ j ∧ j < n ∧ L 15 0 0 (8 * j + 6) = nI r ∧ ¬ L 16 0 0 (8 * j) = 0) := by
  intro d
  induction d with
  | zero =>
    intro i fuel x hd hi hf hx
    obtain ⟨f, rfl⟩ : ∃ f, fuel = f + 1 := ⟨fuel - 1, by omega⟩
    refine ⟨x, hx, ?_, ⟨fun q => Or.inl q, fun q => ?_⟩⟩
    · rw [f_L_needed_8, g4, if_pos (by rw [s_leI (by omega) (by omega)]; omega), s_gd hx]
    · rcases q with q | ⟨j, q1, q2, -⟩
      · exact q
      · omega
  | succ d ih =>
    intro i fuel x hd hi hf hx
    obtain ⟨f, rfl⟩ : ∃ f, fuel = f + 1 := ⟨fuel - 1, by omega⟩
    obtain ⟨st, st1, st2⟩ := hst i (by omega)
    have go : ∀ x' : Int32, (x' = 0 ∨ x' = 1) → (x' = 1 ↔ x = 1 ∨ (L 15 0 0 (8 * i + 6) = nI r ∧ ¬ L 16 0 0 (8 * i) = 0)) → ∃ z : Int32, (z = 0 ∨ z = 1) ∧ f_L_needed_8 f (nI r) x' (nI (i + 1)) L = some (z, L) ∧ (z = 1 ↔ x = 1 ∨ ∃ j, i ≤ j ∧ j < n ∧ L 15 0 0 (8 * j + 6) = nI r ∧ ¬ L 16 0 0 (8 * j) = 0) := by
      intro x' hx' hxx
      obtain ⟨z, z1, z2, z3⟩ := ih (i + 1) f x' (by omega) (by omega) (by omega) hx'
      refine ⟨z, z1, z2, z3.trans ⟨fun q => ?_, fun q => ?_⟩⟩
      · rcases q with q | ⟨j, q1, q2, q3⟩
        · rcases hxx.mp q with q | q
          · exact Or.inl q
          · exact Or.inr ⟨i, Nat.le_refl _, by omega, q⟩
        · exact Or.inr ⟨j, by omega, q2, q3⟩
      · rcases q with q | ⟨j, q1, q2, q3⟩
        · exact Or.inl (hxx.mpr (Or.inl q))
        · rcases Nat.lt_or_ge i j with q4 | q4
          · exact Or.inr ⟨j, q4, q2, q3⟩
          · have : j = i := by omega
            subst this
            exact Or.inl (hxx.mpr (Or.inr q3))
    rw [f_L_needed_8, g4, if_neg (by rw [s_leI (by omega) (by omega)]; omega)]
    simp (disch := omega) only [s_m8, s_a6, s_gi, s_gj, s_cl]
    unfold f_L_needed_49 f_L_needed_45 f_L_needed_50
    rw [s_lt_d, s_lt_d, s_a1]
    rcases hx with rfl | rfl
    · rw [if_pos rfl]
      by_cases q : L 15 0 0 (8 * i + 6) = nI r
      · rw [if_pos q, st2]
        by_cases q2 : st ≤ 0
        · rw [if_pos (by rw [s_l0 (by omega)]; exact q2)]
          refine go 0 (Or.inl rfl) ⟨fun z => absurd z (by decide), fun z => ?_⟩
          rcases z with z | ⟨-, z⟩
          · exact absurd z (by decide)
          · exact absurd (by rw [st2, s_e0 (by omega)]; omega) z
        · rw [if_neg (by rw [s_l0 (by omega)]; exact q2)]
          exact go 1 (Or.inr rfl) ⟨fun _ => Or.inr ⟨q, by rw [st2, s_e0 (by omega)]; omega⟩, fun _ => rfl⟩
      · rw [if_neg q]
        refine go 0 (Or.inl rfl) ⟨fun z => absurd z (by decide), fun z => ?_⟩
        rcases z with z | ⟨z, -⟩
        · exact absurd z (by decide)
        · exact absurd z q
    · rw [if_neg (by decide)]
      exact go 1 (Or.inr rfl) ⟨fun _ => Or.inl rfl, fun _ => rfl⟩
theorem s_neededC {L C : wk_T} {n w t T r : Nat} (h : s_S L C n w t T) (hr : r < n) : ∀ (d i fuel : Nat), n - i = d → i ≤ n → d < fuel → ∃ z : Int32, (z = 0 ∨ z = 1) ∧ f_X0_hasDependentsUp_2 0 fuel (nI r) (nI i) C = some (z, C) ∧ (z = 1 ↔ ∃ j, i ≤ j ∧ j < n ∧ L 15 0 0 (8 * j + 6) = nI r ∧ ¬ L 16 0 0 (8 * j) = 0) := by
  obtain ⟨⟨g1, g2, g3, gT, g4, g5, g6, g7, g8, g9, g10, g11⟩, hR, hZ, hU⟩ := id h
  intro d
  induction d with
  | zero =>
    intro i fuel hd hi hf
    obtain ⟨f, rfl⟩ : ∃ f, fuel = f + 1 := ⟨fuel - 1, by omega⟩
    refine ⟨0, Or.inl rfl, ?_, ⟨fun q => absurd q (by decide), fun ⟨j, q1, q2, _⟩ => by omega⟩⟩
    rw [f_X0_hasDependentsUp_2, g5, if_pos (by rw [s_leI (by omega) (by omega)]; omega)]
  | succ d ih =>
    intro i fuel hd hi hf
    obtain ⟨f, rfl⟩ : ∃ f, fuel = f + 1 := ⟨fuel - 1, by omega⟩
    obtain ⟨⟨⟨-, -, -, -, -, -, a6, -⟩, ⟨b0, -⟩, -⟩, -⟩ := hR i (by omega)
    have go : (¬ (L 15 0 0 (8 * i + 6) = nI r ∧ ¬ L 16 0 0 (8 * i) = 0)) → ∃ z : Int32, (z = 0 ∨ z = 1) ∧ f_X0_hasDependentsUp_2 0 f (nI r) (nI (i + 1)) C = some (z, C) ∧ (z = 1 ↔ ∃ j, i ≤ j ∧ j < n ∧ L 15 0 0 (8 * j + 6) = nI r ∧ ¬ L 16 0 0 (8 * j) = 0) := by
      intro hno
      obtain ⟨z, z1, z2, z3⟩ := ih (i + 1) f (by omega) (by omega) (by omega)
      refine ⟨z, z1, z2, z3.trans ⟨fun ⟨j, q1, q2, q3⟩ => ⟨j, by omega, q2, q3⟩, fun ⟨j, q1, q2, q3⟩ => ?_⟩⟩
      rcases Nat.lt_or_ge i j with q4 | q4
      · exact ⟨j, q4, q2, q3⟩
      · have : j = i := by omega
        subst this
        exact absurd q3 hno
    rw [f_X0_hasDependentsUp_2, g5, if_neg (by rw [s_leI (by omega) (by omega)]; omega)]
    simp (disch := omega) only [s_gi, s_gj, s_cl]
    unfold f_X0_hasDependentsUp_37
    rw [s_lt_d, s_a1, ← a6, ← b0]
    by_cases q : L 15 0 0 (8 * i + 6) = nI r
    · rw [if_pos q]
      by_cases q2 : L 16 0 0 (8 * i) = 0
      · rw [if_pos q2]
        exact go (fun z => z.2 q2)
      · rw [if_neg q2]
        exact ⟨1, Or.inr rfl, rfl, ⟨fun _ => ⟨i, Nat.le_refl _, by omega, q, q2⟩, fun _ => rfl⟩⟩
    · rw [if_neg q]
      exact go (fun z => q z.1)
theorem j_needed {L C : wk_T} {n w t T r : Nat} (h : s_S L C n w t T) (hr : r < n) : ∃ z : Int32, (z = 0 ∨ z = 1) ∧ f_L_needed (nI r) L = some (z, L) ∧ f_X0_hasDependentsUp 0 (nI r) C = some (z, C) := by
  obtain ⟨⟨g1, g2, g3, gT, g4, g5, g6, g7, g8, g9, g10, g11⟩, hR, hZ, hU⟩ := id h
  obtain ⟨z, z1, z2, z3⟩ := s_neededL (r := r) g1 g4 (fun i hi => by obtain ⟨-, -, -, -, st, st1, st2, -⟩ := hR i hi; exact ⟨st, st1, st2⟩) (n - (r + 1)) (r + 1) wk_fuel 0 rfl (by omega) (by show n - (r + 1) < 100; omega) (Or.inl rfl)
  obtain ⟨y, y1, y2, y3⟩ := s_neededC h hr (n - 0) 0 wk_fuel rfl (by omega) (by show n - 0 < 100; omega)
  have hzy : z = y := by
    have hiff : z = 1 ↔ y = 1 := by
      rw [z3, y3]
      refine ⟨fun q => ?_, fun ⟨j, q1, q2, q3, q4⟩ => ?_⟩
      · rcases q with q | ⟨j, q1, q2, q3⟩
        · exact absurd q (by decide)
        · exact ⟨j, by omega, q2, q3⟩
      · refine Or.inr ⟨j, ?_, q2, q3, q4⟩
        obtain ⟨-, -, -, nd, -⟩ := hR j q2
        rcases nd with nd | ⟨j2, nd1, nd2⟩
        · exact absurd (q3.symm.trans nd) (s_nm (by omega))
        · have : r = j2 := (s_eqI (by omega) (by omega)).mp (q3.symm.trans nd2)
          omega
    rcases z1 with rfl | rfl <;> rcases y1 with rfl | rfl
    · rfl
    · exact absurd (hiff.mpr rfl) (by decide)
    · exact absurd (hiff.mp rfl) (by decide)
    · rfl
  subst hzy
  refine ⟨z, z1, ?_, y2⟩
  unfold f_L_needed
  rw [s_lt_d, s_a1]
  exact z2
