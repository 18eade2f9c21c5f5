theorem q_isSo437 {M : wk_T} {n w t T : Nat} (h : s_S M M n w t T) (hH : s_Hs M) (hc : ∀ st, st < 4 → M 19 0 0 st = nI (s_st M (nI st) n)) : f_L_isSo_437 (s_pd M n) (s_bg M n) (s_lte M n) 1 M = some (1, M) := by
  obtain ⟨⟨g1, g2, g3, gT, g4, g5, g6, g7, g8, g9, g10, g11⟩, -⟩ := id h
  obtain ⟨k0, k1_, k2_, k3_, k4_, k5_, k6_, k7_, k8_, k9_, k11_, k20_, k21_⟩ := q_count h hH
  unfold f_L_isSo_437
  rw [if_neg (show ¬ (1 : Int32) = 0 by decide), show f_X3_useOf (M 14 0 0 1) 0 M = some (-1, M) by rw [g6]; exact q_useN h, s_cl_d, if_pos rfl, k0, s_cl_d, if_pos rfl, k1_, s_cl_d, if_pos rfl, k2_, s_cl_d, if_pos rfl, k3_, s_cl_d, if_pos (hc 0 (by omega)).symm, k4_, s_cl_d, if_pos (hc 1 (by omega)).symm, k5_, s_cl_d, if_pos (hc 2 (by omega)).symm, k6_, s_cl_d, if_pos (hc 3 (by omega)).symm]
  unfold f_L_isSo_541
  rw [if_neg (show ¬ (1 : Int32) = 0 by decide), k7_, s_cl_d, if_pos rfl, k8_, s_cl_d, if_pos rfl, k9_, s_cl_d, if_pos rfl, k11_, s_cl_d, if_pos rfl, k20_, s_cl_d, if_pos rfl, k21_, s_cl_d, if_pos rfl]
/-- a rail -/
theorem q_isSo316 {M : wk_T} {n w t T kd : Nat} {x7 x8 x9 : Int32} {g : Int32 → Int32 → Int32 → Int32 → Int32 → wk_T → Option (Int32 × wk_T)} (h : s_S M M n w t T) (hkd : kd < 2) : f_L_isSo_316 g wk_fuel x7 x8 x9 1 (nI kd) 0 0 M = g x7 x8 x9 1 (nI (kd + 1)) M := by
  obtain ⟨⟨g1, g2, g3, gT, g4, g5, -⟩, hR, -⟩ := id h
  have key : ∀ d i f, n - i = d → i ≤ n → f_L_isSo_316 g (f + d + 1) x7 x8 x9 1 (nI kd) (nI (s_cnt M (nI kd) i)) (nI i) M = g x7 x8 x9 1 (nI (kd + 1)) M := by
    intro d
    induction d with
    | zero =>
      intro i f hd hi
      have hin : i = n := by omega
      subst hin
      rw [f_L_isSo_316, g4, if_pos (show nI i ≤ nI i from Int32.le_refl _)]
      unfold f_L_isSo_395 f_L_isSo_429
      rw [if_neg (show ¬ (1 : Int32) = 0 by decide), q_at h hkd (Nat.le_refl _) (Or.inl rfl), s_cl_d, if_pos rfl, if_pos rfl, q_atN hkd, s_cl_d, if_pos rfl, s_a1, s_lt_d]
    | succ d ih =>
      intro i f hd hi
      have hne : ¬ i = n := by omega
      rw [show f + (d + 1) + 1 = (f + d + 1) + 1 by omega, f_L_isSo_316, g4, if_neg (show ¬ nI n ≤ nI i by rw [s_leI (by omega) (by omega)]; omega), if_neg (show ¬ (1 : Int32) = 0 by decide)]
      unfold f_L_isSo_357 f_L_isSo_362 f_L_isSo_386
      simp (disch := omega) only [s_m8, s_a7, s_gi, s_gj, s_cl, s_lt_d, s_a1]
      have e := ih (i + 1) f (by omega) (by omega)
      have hs : s_cnt M (nI kd) (i + 1) = s_cnt M (nI kd) i + if M 15 0 0 (8 * i + 7) = nI kd then 1 else 0 := rfl
      rw [hs] at e
      by_cases q : M 15 0 0 (8 * i + 7) = nI kd
      · rw [if_pos q] at e
        rw [if_pos q, q_at h hkd (by omega) (Or.inr q), s_cl_d, if_neg hne, if_pos rfl, if_pos q]
        exact e
      · rw [if_neg q] at e
        rw [if_neg q, if_neg q, Int32.add_zero]
        exact e
  have e := key (n - 0) 0 (99 - (n - 0)) rfl (by omega)
  rw [show (99 - (n - 0)) + (n - 0) + 1 = wk_fuel by show _ = 100; omega] at e
  exact e
theorem q_isSo296 {M : wk_T} {n w t T : Nat} (h : s_S M M n w t T) (hH : s_Hs M) (hc : ∀ st, st < 4 → M 19 0 0 st = nI (s_st M (nI st) n)) : f_L_isSo_296 (s_pd M n) (s_bg M n) (s_lte M n) 1 M = some (1, M) := by
  have e1 : ∀ f kd, kd < 2 → f_L_isSo_299 (f + 1) (s_pd M n) (s_bg M n) (s_lte M n) 1 (nI kd) M = f_L_isSo_299 f (s_pd M n) (s_bg M n) (s_lte M n) 1 (nI (kd + 1)) M := by
    intro f kd hkd
    rw [f_L_isSo_299, if_neg (show ¬ (2 : Int32) ≤ nI kd from fun z => by have := (nI_leI (a := 2) (b := kd) (by omega) (by omega)).mp z; omega), if_neg (show ¬ (1 : Int32) = 0 by decide), q_isSo316 h hkd]
  unfold f_L_isSo_296
  rw [show f_L_isSo_299 wk_fuel (s_pd M n) (s_bg M n) (s_lte M n) 1 0 M = _ from e1 99 0 (by omega), show (99 : Nat) = 98 + 1 from rfl, e1 98 1 (by omega), show (98 : Nat) = 97 + 1 from rfl, f_L_isSo_299, if_pos (show (2 : Int32) ≤ nI (1 + 1) by decide)]
  exact q_isSo437 h hH hc
/-- the uses -/
theorem q_isSo168 {M : wk_T} {n w t T : Nat} (h : s_S M M n w t T) (hH : s_Hs M) (hc : ∀ st, st < 4 → M 19 0 0 st = nI (s_st M (nI st) n)) : f_L_isSo_168 (s_pd M n) (s_bg M n) (s_lte M n) 1 M = some (1, M) := by
  obtain ⟨⟨g1, g2, g3, gT, g4, g5, g6, -⟩, -, -, hU⟩ := id h
  have key : ∀ d k f, w - k = d → k ≤ w → f_L_isSo_171 (f + d + 1) (s_pd M n) (s_bg M n) (s_lte M n) 1 (nI k) M = some (1, M) := by
    intro d
    induction d with
    | zero =>
      intro k f hd hk
      have hkw : k = w := by omega
      subst hkw
      rw [f_L_isSo_171, g6, if_pos (show nI k ≤ nI k from Int32.le_refl _)]
      exact q_isSo296 h hH hc
    | succ d ih =>
      intro k f hd hk
      obtain ⟨-, -, -, r, tm, ln, hr, -, -, -, u8_, -⟩ := hU k (by omega)
      obtain ⟨x, x1_, x2_, -⟩ := j_first h hr
      obtain ⟨v0, v1_, v2_, v3_, v4_⟩ := q_useOf h (show k < w by omega)
      have v3x := v3_ x (by rw [u8_]; exact x2_)
      have e := ih (k + 1) f (by omega) (by omega)
      rw [show f + (d + 1) + 1 = (f + d + 1) + 1 by omega, f_L_isSo_171, g6, if_neg (show ¬ nI w ≤ nI k by rw [s_leI (by omega) (by omega)]; omega), if_neg (show ¬ (1 : Int32) = 0 by decide), v0, s_cl_d]
      unfold f_L_isSo_269 f_L_isSo_288
      simp (disch := omega) only [s_m3, s_a1, s_a2, s_gi, s_gj, s_cl, s_lt_d]
      rw [if_pos trivial, v1_, s_cl_d, if_pos rfl, v2_, s_cl_d, if_pos rfl, v3x, s_cl_d, u8_, x1_, s_cl_d]
      by_cases q : x = nI k
      · rw [if_pos q, if_pos q, if_pos rfl, v4_, s_cl_d, if_pos rfl]
        exact e
      · rw [if_neg q, if_neg q, if_pos rfl, v4_, s_cl_d, if_pos rfl]
        exact e
  unfold f_L_isSo_168
  have e := key (w - 0) 0 (99 - (w - 0)) rfl (by omega)
  rw [show (99 - (w - 0)) + (w - 0) + 1 = wk_fuel by show _ = 100; omega] at e
  exact e
theorem q_isSo {M : wk_T} {n w t T : Nat} (h : s_S M M n w t T) (hH : s_Hs M) : ∃ M', f_L_isSoA M = some (1, M') ∧ ∀ k, k ≠ 19 → M' k = M k := by
  obtain ⟨⟨g1, g2, g3, gT, g4, g5, g6, -⟩, hR, -, hU⟩ := id h
  have key : ∀ d i f Mi, n - i = d → i ≤ n → (∀ k, k ≠ 19 → Mi k = M k) → (∀ st, st < 4 → Mi 19 0 0 st = nI (s_st M (nI st) i)) → ∃ M', f_L_isSo_20 (f + d + 1) (s_pd M i) (s_bg M i) (s_lte M i) 1 (nI i) Mi = some (1, M') ∧ ∀ k, k ≠ 19 → M' k = M k := by
    intro d
    induction d with
    | zero =>
      intro i f Mi hd hi hM hc
      have hin : i = n := by omega
      subst hin
      have h14 : Mi 14 = M 14 := hM 14 (by omega)
      rw [f_L_isSo_20, h14, g4, if_pos (show nI i ≤ nI i from Int32.le_refl _)]
      refine ⟨Mi, ?_, hM⟩
      have hS2 := s_S_19 h hM
      have ep : s_pd Mi i = s_pd M i := by unfold s_pd; rw [hM 17 (by omega)]
      have eb : s_bg Mi i = s_bg M i := by unfold s_bg; rw [hM 16 (by omega)]
      have el : s_lte Mi i = s_lte M i := by unfold s_lte; rw [hM 16 (by omega)]
      have es : ∀ x j, s_st Mi x j = s_st M x j := by
        intro x j
        induction j with
        | zero => rfl
        | succ j ihj => rw [s_st, s_st, ihj, hM 16 (by omega)]
      rw [← ep, ← eb, ← el]
      exact q_isSo168 hS2 (s_Hs_19 hH hM) (fun st hst => by rw [es]; exact hc st hst)
    | succ d ih =>
      intro i f Mi hd hi hM hc
      have h14 : Mi 14 = M 14 := hM 14 (by omega)
      have h16 : Mi 16 = M 16 := hM 16 (by omega)
      have h17 : Mi 17 = M 17 := hM 17 (by omega)
      obtain ⟨-, -, -, st, st1, st2, -, ⟨wk, wk1, wk2, wk3⟩, -⟩ := (hR i (by omega)).2
      rw [show f + (d + 1) + 1 = (f + d + 1) + 1 by omega, f_L_isSo_20, h14, g4, if_neg (show ¬ nI n ≤ nI i by rw [s_leI (by omega) (by omega)]; omega), if_neg (show ¬ (1 : Int32) = 0 by decide)]
      simp (disch := omega) only [s_m8, s_m4, s_a1, s_a2, s_a3, s_a5, s_a6, s_gi, s_gj, s_cl, s_mu_d, s_lt_d, h16, st2, hc st st1, u_n, h17]
      have hM6 : ∀ k, k ≠ 19 → wk_up Mi 19 0 0 st (nI (s_st M (nI st) i + 1)) k = M k := by
        intro k hk
        rw [← hM k hk]
        funext c' i'
        exact u_r (by omega)
      have hc6 : ∀ s2, s2 < 4 → wk_up Mi 19 0 0 st (nI (s_st M (nI st) i + 1)) 19 0 0 s2 = nI (s_st M (nI s2) (i + 1)) := by
        intro s2 hs2
        rw [s_st, st2]
        by_cases q : s2 = st
        · rw [u_e rfl rfl rfl q, q, if_pos rfl]
        · rw [u_n (by omega), hc s2 hs2, if_neg (show ¬ nI st = nI s2 by rw [s_eqI (by omega) (by omega)]; omega), Nat.add_zero]
      have e := ih (i + 1) f _ (by omega) (by omega) hM6 hc6
      generalize wk_up Mi 19 0 0 st (nI (s_st M (nI st) i + 1)) = M6 at hM6 e ⊢
      have hS6 := s_S_19 h hM6
      obtain ⟨-, r1_, -, -, -, -, -, -, -, -, -, r11_, -⟩ := q_tell hS6 (show i < n by omega)
      rw [q_isRoom hS6 (by omega), s_cl_d, if_neg (show ¬ (1 : Int32) = 0 by decide), r1_, s_cl_d, hM6 16 (by omega), st2]
      unfold f_L_isSo_155 f_L_isSo_160
      by_cases q : st = 0
      · rw [if_pos (show nI st = 0 by rw [q]; rfl), s_a1, s_lt_d]
        exact e
      · rw [if_neg (show ¬ nI st = 0 by rw [s_e0 (by omega)]; exact q), r11_, s_cl_d, hM6 16 (by omega), wk2, if_neg (show ¬ nI wk ≤ 0 from fun z => by
          rw [s_le, s_ti (by omega)] at z
          have := wk3 (by omega)
          have z2 : (wk : Int) ≤ 0 := z
          omega), s_a1, s_lt_d]
        exact e
  unfold f_L_isSoA f_L_isSo
  obtain ⟨M', y1_, y2_⟩ := key (n - 0) 0 (99 - (n - 0)) (wk_ur M 19 0 0 (fun _ => 0)) rfl (by omega) (fun k hk => by
    funext c' i'
    exact wk_ur_n (by omega)) (fun st hst => by rw [wk_ur_s]; rfl)
  rw [show (99 - (n - 0)) + (n - 0) + 1 = wk_fuel by show _ = 100; omega] at y1_
  exact ⟨M', y1_, y2_⟩
