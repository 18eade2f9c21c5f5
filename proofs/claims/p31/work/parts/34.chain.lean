/-- how many uses have begun, in all -/
def s_B (C : wk_T) : Nat → Int32
  | 0 => 0
  | i + 1 => s_B C i + C 6 0 i 10
theorem s_B_same {C C' : wk_T} : ∀ n, (∀ i, i < n → C' 6 0 i 10 = C 6 0 i 10) → s_B C' n = s_B C n := by
  intro n
  induction n with
  | zero => intro _; rfl
  | succ n ih =>
    intro h
    rw [s_B, s_B, ih (fun i hi => h i (by omega)), h n (by omega)]
theorem s_B_one {C C' : wk_T} {r : Nat} : ∀ n, r < n → C' 6 0 r 10 = C 6 0 r 10 + 1 → (∀ i, i < n → i ≠ r → C' 6 0 i 10 = C 6 0 i 10) → s_B C' n = s_B C n + 1 := by
  intro n
  induction n with
  | zero => intro h; omega
  | succ n ih =>
    intro h h1 h2
    rw [s_B, s_B]
    by_cases q : r = n
    · subst q
      rw [s_B_same r (fun i hi => h2 i (by omega) (by omega)), h1, Int32.add_assoc]
    · rw [ih (by omega) h1 (fun i hi hi2 => h2 i (by omega) hi2), h2 n (by omega) (by omega), Int32.add_assoc, Int32.add_assoc, Int32.add_comm 1]
/-- the law's loop over a room's needs, the class's search and waking -/
theorem s_end {L C : wk_T} {n w t T r f : Nat} {k6 : Int64 → Int32 → wk_T → Option (Int64 × wk_T)} {told : Int64} (h : s_S L C n w t T) (hr : r < n) : f_L_tick_18 k6 (f + 1) told (nI r) (-1) L = f_L_tick_95 k6 told (nI r) L := by
  obtain ⟨z, z1, z2, -⟩ := j_called h hr
  rw [f_L_tick_18, z2, s_cl_d]
  rcases z1 with rfl | rfl
  · rw [if_pos rfl]
  · rw [if_neg (show ¬ (1 : Int32) = 0 by decide), if_pos (show (-1 : Int32) < 0 by decide)]
theorem s_wipN {C : wk_T} : f_X0_wakeIfPossible 0 (-1) C = some ((), C) := by
  unfold f_X0_wakeIfPossible f_X0_hasRoom
  rw [if_pos (show (-1 : Int32) < 0 by decide), s_cl_d, if_pos rfl]
theorem j_chain {L C : wk_T} {n w t T r : Nat} (h : s_S L C n w t T) (hr : r < n) (hT : T + 1 ≤ 1000000) (hcl : f_L_called (nI r) L = some (1, L)) : ∀ k, k < n → ∀ fuel fuel2 lk : Nat, k + 3 ≤ fuel → k + 1 ≤ fuel2 → lk + k ≤ 7 → ∃ L' C' T' sg, T ≤ T' ∧ T' ≤ T + 1 ∧ (∀ (k6 : Int64 → Int32 → wk_T → Option (Int64 × wk_T)) (told : Int64), f_L_tick_18 k6 fuel told (nI r) (nI k) L = f_L_tick_95 k6 told (nI r) L') ∧ f_X0_soughtFor_4 0 fuel2 (nI k) (nI lk) C = some (sg, C) ∧ f_X0_wakeIfPossible 0 sg C = some ((), C') ∧ s_S L' C' n w t T' ∧ s_l L L' ∧ s_c C C' ∧ (∀ i, C' 6 0 i 10 = C 6 0 i 10) := by
  obtain ⟨⟨g1, g2, g3, gT, g4, g5, g6, g7, g8, g9, g10, g11⟩, hR, hZ, hU⟩ := id h
  intro k
  induction k using Nat.strongRecOn with
  | ind k ih =>
    intro hk fuel fuel2 lk hf1 hf2 hlk
    obtain ⟨f, rfl⟩ : ∃ f, fuel = f + 2 := ⟨fuel - 2, by omega⟩
    obtain ⟨f2, rfl⟩ : ∃ f, fuel2 = f + 1 := ⟨fuel2 - 1, by omega⟩
    obtain ⟨⟨⟨-, -, -, -, -, -, a6, -⟩, ⟨b0, -⟩, -⟩, -⟩ := hR k hk
    obtain ⟨st, rd, v, q1, q2, q3, q4, q5, q6, q7⟩ := j_can h hk
    have hlk8 : ¬ (8 : Int32) ≤ nI lk := fun z => by
      have := (nI_leI (a := 8) (b := lk) (by omega) (by omega)).mp z
      omega
    have hhd : ∀ (k6 : Int64 → Int32 → wk_T → Option (Int64 × wk_T)) (told : Int64), f_L_tick_18 k6 (f + 2) told (nI r) (nI k) L = (if st = 0 then wk_cl (f_L_can (nI k) L) (fun r7 M8 => if r7 = 0 then f_L_tick_66 k6 (f_L_tick_18 k6 (f + 1)) told (nI r) (nI k) M8 else wk_cl (f_L_wake (nI k) M8) (fun _ M11 => f_L_tick_66 k6 (f_L_tick_18 k6 (f + 1)) told (nI r) (nI k) M11)) else f_L_tick_95 k6 told (nI r) L) := by
      intro k6 told
      rw [f_L_tick_18, hcl, s_cl_d, if_neg (show ¬ (1 : Int32) = 0 by decide), if_neg (show ¬ nI k < 0 from s_neg (by omega))]
      simp (disch := omega) only [s_m8, s_gi, s_gj, s_cl]
      rw [q1]
    rw [f_X0_soughtFor_4, if_neg hlk8, s_hasRoom g5 hk g1, s_cl_d, if_neg (show ¬ (1 : Int32) = 0 by decide)]
    simp (disch := omega) only [s_gi, s_gj, s_cl]
    rw [← b0, q1]
    by_cases qs : st = 0
    · simp only [if_pos qs] at hhd
      rw [if_pos qs, q3, s_cl_d]
      rcases q4 with rfl | ⟨rfl, j, hj, q8⟩
      · rw [if_neg (show ¬ (1 : Int32) = 0 by decide)]
        rcases q5 with rfl | rfl
        · refine ⟨L, C, T, nI k, Nat.le_refl _, by omega, fun k6 told => ?_, rfl, ?_, h, s_l.rf, s_c.rf, fun _ => rfl⟩
          · rw [hhd, q7, s_cl_d, if_neg (show ¬ (st = 0 ∧ (1 : Int32) = 1 ∧ (0 : Int32) = 1) from fun z => absurd z.2.2 (by decide)), if_pos rfl]
            unfold f_L_tick_66 f_L_tick_90
            rw [q2, s_cl_d, if_neg (show ¬ (1 : Int32) = 0 by decide)]
            exact s_end h hr
          · unfold f_X0_wakeIfPossible
            rw [s_hasRoom g5 hk g1, s_cl_d, if_neg (show ¬ (1 : Int32) = 0 by decide), q6, s_cl_d, if_pos rfl]
        · obtain ⟨L', C', w1, w2, w3, w4, w5, w6, w7⟩ := j_wake h hk hT (q1.trans qs)
          refine ⟨L', C', T + 1, nI k, by omega, Nat.le_refl _, fun k6 told => ?_, rfl, ?_, w3, w4, w5, w7⟩
          · rw [hhd, q7, s_cl_d, if_pos (show st = 0 ∧ (1 : Int32) = 1 ∧ (1 : Int32) = 1 from ⟨qs, rfl, rfl⟩), if_neg (show ¬ (1 : Int32) = 0 by decide), w1, s_cl_d]
            unfold f_L_tick_66 f_L_tick_90
            rw [w6 q2, s_cl_d, if_neg (show ¬ (1 : Int32) = 0 by decide)]
            exact s_end w3 hr
          · unfold f_X0_wakeIfPossible
            rw [s_hasRoom g5 hk g1, s_cl_d, if_neg (show ¬ (1 : Int32) = 0 by decide), q6, s_cl_d, if_neg (show ¬ (1 : Int32) = 0 by decide), s_gi (by omega) (by omega), s_cl (by omega), w2, s_cl_d]
      · obtain ⟨L', C', T', sg, x1, x2, x3, x4, x5, x6⟩ := ih j hj (by omega) (f + 1) f2 (lk + 1) (by omega) (by omega) (by omega)
        refine ⟨L', C', T', sg, x1, x2, fun k6 told => ?_, ?_, x5, x6⟩
        · rw [hhd, q7, s_cl_d, if_neg (show ¬ (st = 0 ∧ (0 : Int32) = 1 ∧ v = 1) from fun z => absurd z.2.1 (by decide)), if_pos rfl]
          unfold f_L_tick_66 f_L_tick_90
          rw [q2, s_cl_d, if_pos rfl]
          simp (disch := omega) only [s_m8, s_a6, s_gi, s_gj, s_cl]
          rw [q8]
          exact x3 k6 told
        · rw [if_pos rfl, s_lt_d, s_lt_d, ← a6, q8, s_a1]
          exact x4
    · simp only [if_neg qs] at hhd
      rw [if_neg qs]
      exact ⟨L, C, T, -1, Nat.le_refl _, by omega, hhd, rfl, s_wipN, h, s_l.rf, s_c.rf, fun _ => rfl⟩
/-- a use goes out of the row -/
theorem s_dropL {w : Nat} (hw : w ≤ 11) : ∀ (d p fuel : Nat) (L : wk_T), 3 * w - p = d → p ≤ 3 * w → d < fuel → L 14 0 0 1 = nI w → ∃ L', f_L_drop_11 fuel (nI p) L = some ((), L') ∧ (∀ k c i, k ≠ 18 → L' k c i = L k c i) ∧ ∀ j, L' 18 0 0 j = if p ≤ j ∧ j < 3 * w then L 18 0 0 (j + 3) else L 18 0 0 j := by
  intro d
  induction d with
  | zero =>
    intro p fuel L hd hp hf hg
    obtain ⟨f, rfl⟩ : ∃ f, fuel = f + 1 := ⟨fuel - 1, by omega⟩
    refine ⟨L, ?_, fun _ _ _ _ => rfl, fun j => by rw [if_neg (by omega)]⟩
    rw [f_L_drop_11, hg, s_m3, if_pos (show nI (3 * w) ≤ nI p by rw [s_leI (by omega) (by omega)]; omega)]
  | succ d ih =>
    intro p fuel L hd hp hf hg
    obtain ⟨f, rfl⟩ : ∃ f, fuel = f + 1 := ⟨fuel - 1, by omega⟩
    rw [f_L_drop_11, hg, s_m3, if_neg (show ¬ nI (3 * w) ≤ nI p by rw [s_leI (by omega) (by omega)]; omega)]
    simp (disch := omega) only [s_a3, s_a1, s_gi, s_gj, s_cl, s_mu_d, s_lt_d]
    obtain ⟨L', x1, x2, x3⟩ := ih (p + 1) f (wk_up L 18 0 0 p (L 18 0 0 (p + 3))) (by omega) (by omega) (by omega) (by simp (disch := omega) only [u_n]; exact hg)
    refine ⟨L', x1, fun k c i hk => (x2 k c i hk).trans (u_r (fun z => hk z.1)), fun j => ?_⟩
    rw [x3 j]
    by_cases q : j = p
    · subst q
      rw [if_neg (by omega), if_pos (by omega)]
      simp (disch := omega) only [u_e]
    · by_cases q2 : p ≤ j ∧ j < 3 * w
      · rw [if_pos (by omega), if_pos q2]
        simp (disch := omega) only [u_n]
      · rw [if_neg (by omega), if_neg q2]
        simp (disch := omega) only [u_n]
theorem s_remC {w : Nat} (hw : w ≤ 12) (hw1 : 1 ≤ w) : ∀ (d i fuel : Nat) (C : wk_T), w - 1 - i = d → i < w → d < fuel → C 0 0 0 6 = nI w → ∃ C', f_X0_removeUse_2 0 fuel (nI i) C = some ((), C') ∧ C' 0 0 0 6 = nI (w - 1) ∧ (∀ s, s ≠ 6 → C' 0 0 0 s = C 0 0 0 s) ∧ (∀ k c j, ¬ (c = 0 ∧ j = 0 ∧ (k = 0 ∨ (3 ≤ k ∧ k ≤ 5))) → C' k c j = C k c j) ∧ ∀ k j, 3 ≤ k → k ≤ 5 → C' k 0 0 j = if i ≤ j ∧ j < w - 1 then C k 0 0 (j + 1) else C k 0 0 j := by
  intro d
  induction d with
  | zero =>
    intro i fuel C hd hi hf hg
    obtain ⟨f, rfl⟩ : ∃ f, fuel = f + 1 := ⟨fuel - 1, by omega⟩
    refine ⟨wk_up C 0 0 0 6 (nI (w - 1)), ?_, by simp (disch := omega) only [u_e], fun s hs => by simp (disch := omega) only [u_n], fun k c j hk => u_r (fun z => hk (by omega)), fun k j h1 h2 => ?_⟩
    · rw [f_X0_removeUse_2, hg, s_a1, if_pos (show nI w ≤ nI (i + 1) by rw [s_leI (by omega) (by omega)]; omega), s_mu_d]
      rw [show nI w - 1 = nI (w - 1) by rw [show w = (w - 1) + 1 by omega, s_p1]; rfl]
    · rw [if_neg (by omega), u_n (by omega)]
  | succ d ih =>
    intro i fuel C hd hi hf hg
    obtain ⟨f, rfl⟩ : ∃ f, fuel = f + 1 := ⟨fuel - 1, by omega⟩
    rw [f_X0_removeUse_2, hg, s_a1, if_neg (show ¬ nI w ≤ nI (i + 1) by rw [s_leI (by omega) (by omega)]; omega)]
    simp (disch := omega) only [s_gi, s_gj, s_cl, s_mu_d, s_lt_d, u_n]
    obtain ⟨C', x1, x2, x3, x4, x5⟩ := ih (i + 1) f (wk_up (wk_up (wk_up C 3 0 0 i (C 3 0 0 (i + 1))) 4 0 0 i (C 4 0 0 (i + 1))) 5 0 0 i (C 5 0 0 (i + 1))) (by omega) (by omega) (by omega) (by simp (disch := omega) only [u_n]; exact hg)
    refine ⟨C', x1, x2, fun s hs => (x3 s hs).trans (by simp (disch := omega) only [u_n]), fun k c j hk => (x4 k c j hk).trans ?_, fun k j h1 h2 => ?_⟩
    · rw [u_r (by omega), u_r (by omega), u_r (by omega)]
    · rw [x5 k j h1 h2]
      rcases (show k = 3 ∨ k = 4 ∨ k = 5 by omega) with rfl | rfl | rfl
      all_goals
        by_cases q : j = i
        · subst q
          rw [if_neg (by omega), if_pos (by omega)]
          simp (disch := omega) only [u_e, u_n]
        · by_cases q2 : i ≤ j ∧ j < w - 1
          · rw [if_pos (by omega), if_pos q2]
            simp (disch := omega) only [u_n]
          · rw [if_neg (by omega), if_neg q2]
            simp (disch := omega) only [u_n]
theorem j_drop {L C : wk_T} {n w t T k : Nat} (h : s_S L C n w t T) (hk : k < w) : ∃ L' C', f_L_drop (nI k) L = some ((), L') ∧ f_X0_removeUse 0 (nI k) C = some ((), C') ∧ s_S L' C' n (w - 1) t T ∧ s_l L L' ∧ s_c C C' ∧ (∀ i, C' 6 0 i 10 = C 6 0 i 10) := by
  obtain ⟨⟨g1, g2, g3, gT, g4, g5, g6, g7, g8, g9, g10, g11⟩, hR, hZ, hU⟩ := id h
  have hw1 : nI w - 1 = nI (w - 1) := by rw [show w = (w - 1) + 1 by omega, s_p1]; rfl
  obtain ⟨L', x1, x2, x3⟩ := s_dropL (w := w - 1) (by omega) (3 * (w - 1) - 3 * k) (3 * k) wk_fuel (wk_up L 14 0 0 1 (nI (w - 1))) rfl (by omega) (by show _ < 100; omega) (by simp (disch := omega) only [u_e])
  obtain ⟨C', y1, y2, y3, y4, y5⟩ := s_remC (w := w) g2 (by omega) (w - 1 - k) k wk_fuel C rfl hk (by show _ < 100; omega) g7
  have e14 : ∀ s, s ≠ 1 → L' 14 0 0 s = L 14 0 0 s := fun s hs => by rw [x2 14 0 0 (by omega), u_n (by omega)]
  have e18 : ∀ j, L' 18 0 0 j = if 3 * k ≤ j ∧ j < 3 * (w - 1) then L 18 0 0 (j + 3) else L 18 0 0 j := fun j => by
    rw [x3 j]
    simp (disch := omega) only [u_n]
  have eL : ∀ m, m ≠ 14 → m ≠ 18 → ∀ c i, L' m c i = L m c i := fun m h1 h2 c i => by rw [x2 m c i h2, u_r (by omega)]
  have eC : ∀ m i, 6 ≤ m → C' m 0 i = C m 0 i := fun m i hm => y4 m 0 i (by omega)
  have e2 : C' 2 0 0 = C 2 0 0 := y4 2 0 0 (by omega)
  refine ⟨L', C', ?_, y1, ⟨⟨g1, by omega, g3, gT, by rw [e14 0 (by omega)]; exact g4, by rw [y3 1 (by omega)]; exact g5, ?_, y2, by rw [e14 2 (by omega)]; exact g8, by rw [y3 7 (by omega)]; exact g9, by rw [e14 3 (by omega), e2]; exact g10, by rw [e14 4 (by omega), e2]; exact g11⟩, fun i hi => ?_, fun i hi1 hi2 => ?_, fun j hj => ?_⟩, fun m c i hm => eL m (by omega) (by omega) c i, fun m c i hm => y4 m c i (by omega), fun i => by rw [eC 6 i (by omega)]⟩
  · unfold f_L_drop
    rw [s_mu_d, s_lt_d, g6, hw1, s_m3]
    exact x1
  · rw [x2 14 0 0 (by omega), u_e rfl rfl rfl rfl]
  · have q := hR i hi
    unfold s_R s_O at q ⊢
    rw [eL 15 (by omega) (by omega), eL 16 (by omega) (by omega), eL 17 (by omega) (by omega), eC 6 i (by omega), eC 7 i (by omega), eC 8 i (by omega)]
    exact q
  · have q := hZ i hi1 hi2
    unfold s_Z at q ⊢
    rw [eL 16 (by omega) (by omega), eL 17 (by omega) (by omega)]
    exact q
  · by_cases q : k ≤ j
    · have z := hU (j + 1) (by omega)
      unfold s_U at z ⊢
      rw [e18 (3 * j), e18 (3 * j + 1), e18 (3 * j + 2), if_pos (by omega), if_pos (by omega), if_pos (by omega), y5 3 j (by omega) (by omega), y5 4 j (by omega) (by omega), y5 5 j (by omega) (by omega), if_pos (by omega), if_pos (by omega), if_pos (by omega)]
      rw [show 3 * j + 1 + 3 = 3 * (j + 1) + 1 by omega, show 3 * j + 2 + 3 = 3 * (j + 1) + 2 by omega, show 3 * j + 3 = 3 * (j + 1) by omega]
      exact z
    · have z := hU j (by omega)
      unfold s_U at z ⊢
      rw [e18 (3 * j), e18 (3 * j + 1), e18 (3 * j + 2), if_neg (by omega), if_neg (by omega), if_neg (by omega), y5 3 j (by omega) (by omega), y5 4 j (by omega) (by omega), y5 5 j (by omega) (by omega), if_neg (by omega), if_neg (by omega), if_neg (by omega)]
      exact z
