/-! the law answers 1 -/
theorem s_out {C : wk_T} {lo hi x : Int32} (h1 : ¬ x < lo) (h2 : ¬ x ≤ hi) : f_X3_outside x lo hi C = some (1, C) := by
  unfold f_X3_outside
  rw [if_neg h1, if_neg h2]
theorem q_end {M : wk_T} {n w t T : Nat} {xs : Nat → Int32} {Lx : Nat} (h : s_S M M n w t T) : f_L_law_297 xs Lx 1 M = some (1, M) := by
  obtain ⟨⟨g1, g2, g3, gT, g4, g5, -⟩, -⟩ := id h
  have c : ∀ x : Int32, ¬ x = 10 → ¬ x = 11 → ¬ x = 20 → ¬ x = 21 → ¬ x < 0 → ¬ x ≤ 9 → f_X3_count x M = some (-1, M) := by
    intro x h1 h2 h3 h4 h5 h6
    unfold f_X3_count
    rw [if_neg h1, if_neg h2, if_neg h3, if_neg h4, s_out h5 h6, s_cl_d, if_neg (show ¬ (1 : Int32) = 0 by decide)]
  have r : f_X3_roomOf (nI n) 0 M = some (-1, M) := by
    unfold f_X3_roomOf f_X0_hasRoom
    rw [if_neg (show ¬ nI n < 0 from s_neg (by omega)), g5, if_pos (show nI n ≤ nI n from Int32.le_refl _), s_cl_d, if_pos rfl]
  have p : f_X3_pluggedAt 2 0 M = some (-1, M) := by
    unfold f_X3_pluggedAt
    rw [s_out (show ¬ (2 : Int32) < 0 by decide) (show ¬ (2 : Int32) ≤ 1 by decide), s_cl_d, if_neg (show ¬ (1 : Int32) = 0 by decide)]
  have e : f_X3_energy (-1) 0 M = some (-1, M) := by
    unfold f_X3_energy f_X0_hasRoom
    rw [if_pos (show (-1 : Int32) < 0 by decide), s_cl_d, if_pos rfl]
  unfold f_L_law_297
  rw [if_neg (show ¬ (1 : Int32) = 0 by decide), c 12 (by decide) (by decide) (by decide) (by decide) (by decide) (by decide), s_cl_d, if_pos rfl, c 19 (by decide) (by decide) (by decide) (by decide) (by decide) (by decide), s_cl_d, if_pos rfl, c 22 (by decide) (by decide) (by decide) (by decide) (by decide) (by decide), s_cl_d, if_pos rfl, g4, r, s_cl_d, if_pos rfl, p, s_cl_d, if_pos rfl, e, s_cl_d, if_pos rfl]
theorem q_226 {xs : Nat → Int32} {Lx m : Nat} (hm : m ≤ 49) : ∀ d i f M n w t T, m - i = d → i ≤ m → s_S M M n w t T → s_Hs M → s_P M n → T ≤ 8160 + 680 * i → ∃ MM, f_L_law_226 xs Lx (f + d + 1) 1 (nI m) (nI i) M = some (1, MM) := by
  intro d
  induction d with
  | zero =>
    intro i f M n w t T hd hi h hH hp hT
    have him : i = m := by omega
    subst him
    rw [f_L_law_226, if_pos (show nI i ≤ nI i from Int32.le_refl _)]
    exact ⟨M, q_end h⟩
  | succ d ih =>
    intro i f M n w t T hd hi h hH hp hT
    rw [show f + (d + 1) + 1 = (f + d + 1) + 1 by omega, f_L_law_226, if_neg (show ¬ nI m ≤ nI i by rw [s_leI (by omega) (by omega)]; omega), if_neg (show ¬ (1 : Int32) = 0 by decide), show (13 : Int32) + nI i = nI (13 + i) from nI_add 13 i, s_gd (show ¬ nI (13 + i) < 0 from s_neg (by omega)), s_lt_d]
    obtain ⟨M1, n1_, w1_, t1_, T1_, x1_, x2_, x3_, x4_, x5_, x6_⟩ := a_acts (v := f_cell xs Lx (nI (13 + i)) ^^^ (7919 * nI i)) h hH hp (by omega)
    obtain ⟨M2, y1_, y2_⟩ := q_isSo x2_ x3_
    rw [x1_, s_cl_d, if_neg (show ¬ (1 : Int32) = 0 by decide), y1_, s_cl_d, if_neg (show ¬ (1 : Int32) = 0 by decide)]
    unfold f_L_law_289
    rw [s_a1, s_lt_d]
    have hT2 : T1_ ≤ 8160 + 680 * (i + 1) := by
      have hz := Nat.le_trans x5_ (Nat.add_le_add_right hT 680)
      rw [Nat.mul_add, ← Nat.add_assoc]
      exact hz
    exact ih (i + 1) f M2 n1_ w1_ t1_ T1_ (by omega) (by omega) (s_S_19 x2_ y2_) (s_Hs_19 x3_ y2_) (s_P_c x6_ (by rw [y2_ 15 (by omega)])) hT2
theorem q_208 {xs : Nat → Int32} {Lx : Nat} {M : wk_T} {n w t T : Nat} (h : s_S M M n w t T) (hH : s_Hs M) (hp : s_P M n) (hT : T ≤ 8160) : ∃ MM, f_L_law_208 xs Lx 1 M = some (1, MM) := by
  obtain ⟨a, ha, ea⟩ := s_low (M := M) (v := f_cell xs Lx 0) (m := 42) (by omega) (by omega)
  unfold f_L_law_208
  rw [s_gd (show ¬ (0 : Int32) < 0 by decide), s_lt_d, show f_L_low (f_cell xs Lx 0) 42 M = _ from ea, s_cl_d, show (8 : Int32) + nI a = nI (8 + a) from nI_add 8 a, s_lt_d]
  obtain ⟨MM, e⟩ := q_226 (xs := xs) (Lx := Lx) (m := 8 + a) (by omega) (8 + a - 0) 0 (99 - (8 + a - 0)) M n w t T rfl (by omega) h hH hp (by omega)
  rw [show (99 - (8 + a - 0)) + (8 + a - 0) + 1 = wk_fuel by show _ = 100; omega] at e
  exact ⟨MM, e⟩
theorem q_60 {xs : Nat → Int32} {Lx : Nat} : ∀ d i f M n w t T, 12 - i = d → i ≤ 12 → s_S M M n w t T → s_Hs M → (s_P0 M n ∧ (i = 0 ∨ 0 < n)) → T ≤ 680 * i → ∃ MM, f_L_law_60 xs Lx (f + d + 1) 1 (nI i) M = some (1, MM) := by
  intro d
  induction d with
  | zero =>
    intro i f M n w t T hd hi h hH hp hT
    have hi12 : i = 12 := by omega
    subst hi12
    rw [f_L_law_60, if_pos (show (12 : Int32) ≤ nI 12 from Int32.le_refl _)]
    exact q_208 h hH ⟨hp.1, by have := hp.2; omega⟩ (by omega)
  | succ d ih =>
    intro i f M n w t T hd hi h hH hp hT
    have le : ∀ b, b < 13 → ((nI b ≤ nI i) = (b ≤ i)) := fun b hb => s_leI (by omega) (by omega)
    rw [show f + (d + 1) + 1 = (f + d + 1) + 1 by omega, f_L_law_60, if_neg (show ¬ (12 : Int32) ≤ nI i from fun z => by have := (le 12 (by omega)).mp z; omega), if_neg (show ¬ (1 : Int32) = 0 by decide), s_1a, s_gd (show ¬ nI (1 + i) < 0 from s_neg (by omega)), s_lt_d]
    obtain ⟨b, hb, eb⟩ := pk_andE (f_cell xs Lx (nI (1 + i))) (m := 2147483647) 31 (by decide)
    rw [eb, show nI b / 7 = nI (b / 7) from pk_div (d := 7) (by omega) (by omega) (by omega), s_lt_d]
    have hb7 : b / 7 < 2147483648 := by omega
    generalize b / 7 = x at hb7 ⊢
    have fin : ∀ g : Option (Int32 × wk_T), s_ok g T 680 → ∃ MM, wk_cl g (fun r M1 => f_L_law_200 xs Lx (f_L_law_60 xs Lx (f + d + 1)) (nI i) r M1) = some (1, MM) := by
      intro g hg
      obtain ⟨M1, n1_, w1_, t1_, T1_, x1_, x2_, x3_, x4_, x5_, x6_, x7_⟩ := hg
      rw [x1_, s_cl_d]
      unfold f_L_law_200
      rw [s_a1, s_lt_d]
      exact ih (i + 1) f M1 n1_ w1_ t1_ T1_ (by omega) (by omega) x2_ x3_ ⟨x6_, Or.inr x7_⟩ (by omega)
    by_cases k4 : 4 ≤ i
    · have hpp : s_P M n := ⟨hp.1, by have := hp.2; omega⟩
      rw [if_pos (show (4 : Int32) ≤ nI i from (le 4 (by omega)).mpr k4)]
      by_cases k8 : 8 ≤ i
      · rw [if_pos (show (8 : Int32) ≤ nI i from (le 8 (by omega)).mpr k8)]
        by_cases k10 : 10 ≤ i
        · rw [if_pos (show (10 : Int32) ≤ nI i from (le 10 (by omega)).mpr k10)]
          exact fin _ (a_acts h hH hpp (by omega))
        · rw [if_neg (show ¬ (10 : Int32) ≤ nI i from fun z => k10 ((le 10 (by omega)).mp z))]
          exact fin _ (a_policy h hH hpp hb7 hpp.2)
      · rw [if_neg (show ¬ (8 : Int32) ≤ nI i from fun z => k8 ((le 8 (by omega)).mp z))]
        have e2 : wk_rem (nI x / 8) 1000000 = nI (x / 8 % 1000000) := s_dm (d := 8) (e := 1000000) hb7 (by omega) (by omega) (by omega) (by omega)
        have hlt : x / 8 % 1000000 < 1000000 := Nat.mod_lt _ (by omega)
        rw [e2, show nI (x / 8 % 1000000) * 68 = nI (x / 8 % 1000000 * 68) from pk_mul _ 68, show nI i - 4 = nI (i - 4) from pk_sub (b := 4) k4, show nI (i - 4) * 17 = nI ((i - 4) * 17) from pk_mul _ 17, nI_add, s_a4]
        exact fin _ (a_plug h hH hpp (by omega) hpp.2)
    · rw [if_neg (show ¬ (4 : Int32) ≤ nI i from fun z => k4 ((le 4 (by omega)).mp z))]
      exact fin _ (a_room h hH hp.1 hb7)
theorem q_law {xs : Nat → Int32} {Lx : Nat} {M : wk_T} (hH : s_Hs M) (h14 : ∀ s, s < 3 → M 14 0 0 s = 0) (h16 : ∀ s, s < 64 → M 16 0 0 s = 0) (h17 : ∀ s, s < 48 → M 17 0 0 s = 0) (c1 : M 0 0 0 1 = 0) (c6 : M 0 0 0 6 = 0) (c7 : M 0 0 0 7 = 0) (l0 : M 2 0 0 0 = 2) (l1 : M 2 0 0 1 = 2) : ∃ MM, f_L_law xs Lx M = some (1, MM) := by
  have hS : s_S (wk_up (wk_up M 14 0 0 3 2) 14 0 0 4 2) (wk_up (wk_up M 14 0 0 3 2) 14 0 0 4 2) 0 0 0 0 := by
    refine ⟨⟨by omega, by omega, by omega, by omega, ?_⟩, fun i hi => absurd hi (by omega), fun i hi1 hi2 => ?_, fun k hk => absurd hk (by omega)⟩
    · simp (disch := omega) only [u_e, u_n]
      exact ⟨h14 0 (by omega), c1, h14 1 (by omega), c6, h14 2 (by omega), c7, l0.symm, l1.symm⟩
    · unfold s_Z
      simp (disch := omega) only [u_n]
      exact ⟨fun k hk => h16 _ (by omega), fun k hk => h17 _ (by omega), h17 _ (by omega)⟩
  have hHs : s_Hs (wk_up (wk_up M 14 0 0 3 2) 14 0 0 4 2) := s_Hs_c hH (by simp (disch := omega) only [u_r]) (by simp (disch := omega) only [u_r]) (by simp (disch := omega) only [u_r])
  unfold f_L_law
  rw [s_mu_d, s_mu_d]
  obtain ⟨M2, y1_, y2_⟩ := q_isSo hS hHs
  rw [y1_, s_cl_d]
  obtain ⟨MM, e⟩ := q_60 (xs := xs) (Lx := Lx) (12 - 0) 0 87 M2 0 0 0 0 rfl (by omega) (s_S_19 hS y2_) (s_Hs_19 hHs y2_) ⟨fun rl _ => by show 0 ≤ 4; omega, Or.inl rfl⟩ (by omega)
  exact ⟨MM, e⟩
