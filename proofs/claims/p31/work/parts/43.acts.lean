theorem s_low {M : wk_T} {v : Int32} {m : Nat} (h0 : 0 < m) (hm : m < 2147483648) : ∃ a, a < m ∧ f_L_low v (nI m) M = some (nI a, M) := by
  obtain ⟨j, hj, e⟩ := pk_andE v (m := 2147483647) 31 (by decide)
  refine ⟨j % m, Nat.mod_lt _ h0, ?_⟩
  unfold f_L_low
  rw [s_gd (show ¬ nI m = 0 by rw [s_e0 (by omega)]; omega), e, s_rm (by omega) h0 hm]
theorem a_lays {M : wk_T} {n w t T a k : Nat} (h : s_S M M n w t T) (hH : s_Hs M) (hp : s_P M n) (ha : a < 2147483648) (hk : k ≤ 5) (h0 : k = 0 ∨ 0 < n) : s_ok (f_L_acts_102 (nI a) (nI k) M) T 680 := by
  have key : s_ok (f_L_lays (nI a) (nI k) M) T 680 := by
    rcases (show k = 0 ∨ k = 1 ∨ k = 2 ∨ k = 3 ∨ k = 4 ∨ k = 5 by omega) with rfl | rfl | rfl | rfl | rfl | rfl
    · exact a_room h hH hp.1 ha
    · exact a_need h hH hp ha (by omega)
    · exact a_plug h hH hp ha (by omega)
    · exact a_unplug h hH hp ha (by omega)
    · exact a_limit h hH hp ha (by omega)
    · exact a_policy h hH hp ha (by omega)
  obtain ⟨M1, n1_, w1_, t1_, T1_, z1_, z2_⟩ := key
  refine ⟨M1, n1_, w1_, t1_, T1_, ?_, z2_⟩
  unfold f_L_acts_102
  rw [z1_, s_cl_d, s_gd (show (1 : Int32) = 0 ∨ (1 : Int32) = 1 from Or.inr rfl)]
theorem a_acts {M : wk_T} {n w t T : Nat} {v : Int32} (h : s_S M M n w t T) (hH : s_Hs M) (hp : s_P M n) (hT : T + 700 ≤ 45000) : s_ok (f_L_acts v M) T 680 := by
  obtain ⟨⟨g1, g2, g3, gT, g4, g5, g6, g7, g8, -⟩, -⟩ := id h
  obtain ⟨a, ha, ea⟩ := s_low (M := M) (v := v >>> (5 &&& 31)) (m := 10000000) (by omega) (by omega)
  obtain ⟨c, hc, ec⟩ := s_low (M := M) (v := v) (m := 28) (by omega) (by omega)
  have L0 : s_ok (f_L_acts_32 (nI a) M) T 680 := a_lays (k := 0) h hH hp (by omega) (by omega) (Or.inl rfl)
  unfold f_L_acts
  rw [show f_L_low (v >>> (5 &&& 31)) 10000000 M = _ from ea, s_cl_d, show f_L_low v 28 M = _ from ec, s_cl_d]
  have cle : ∀ b, b < 28 → ((nI b ≤ nI c) = (b ≤ c)) := fun b hb => s_leI (by omega) (by omega)
  have ceq : ∀ b, b < 28 → ((nI c = nI b) = (c = b)) := fun b hb => s_eqI (by omega) (by omega)
  by_cases k0 : c < 2
  · rw [if_pos (show nI c < 2 from (nI_ltI (b := 2) (by omega) (by omega)).mpr k0)]
    exact L0
  · rw [if_neg (show ¬ nI c < 2 from fun z => k0 ((nI_ltI (b := 2) (by omega) (by omega)).mp z)), g4]
    by_cases hn0 : n = 0
    · rw [if_pos (show nI n = 0 by rw [hn0]; rfl)]
      exact L0
    · have hnz : ¬ nI n = 0 := by rw [s_e0 (by omega)]; omega
      have hn : 0 < n := by omega
      rw [if_neg hnz]
      by_cases k9 : 9 ≤ c
      · rw [if_pos (show (9 : Int32) ≤ nI c from (cle 9 (by omega)).mpr k9), s_gd hnz, s_rm (by omega) hn (by omega), s_lt_d]
        have hr : a % n < n := Nat.mod_lt _ hn
        by_cases k17 : 17 ≤ c
        · rw [if_pos (show (17 : Int32) ≤ nI c from (cle 17 (by omega)).mpr k17)]
          by_cases e17 : c = 17
          · rw [if_pos (show nI c = 17 from (ceq 17 (by omega)).mpr e17), g6, s_a1, s_gd (show ¬ nI (w + 1) = 0 by rw [s_e0 (by omega)]; omega), s_rm (by omega) (by omega) (by omega), s_lt_d]
            have y := a_drop (k := a % (w + 1)) h hH hp (by have := Nat.mod_lt a (show 0 < w + 1 by omega); omega)
            rw [g6] at y
            exact y
          · rw [if_neg (show ¬ nI c = 17 from fun z => e17 ((ceq 17 (by omega)).mp z))]
            by_cases k20 : 20 ≤ c
            · rw [if_pos (show (20 : Int32) ≤ nI c from (cle 20 (by omega)).mpr k20)]
              by_cases k22 : 22 ≤ c
              · rw [if_pos (show (22 : Int32) ≤ nI c from (cle 22 (by omega)).mpr k22)]
                have tick : ∀ m, 0 < m → m ≤ 40 → s_ok (f_L_acts_478 1 (nI a) (nI m) M) T 680 := by
                  intro m hm1 hm2
                  unfold f_L_acts_478
                  rw [s_gd (show ¬ nI m = 0 by rw [s_e0 (by omega)]; omega), s_rm (by omega) hm1 (by omega), s_1a, s_lt_d]
                  have := Nat.mod_lt a hm1
                  exact a_tick h hH hp (by omega) (by omega) hT
                by_cases q : wk_rem (nI a) 4 = 0
                · rw [if_pos q]
                  exact tick 40 (by omega) (by omega)
                · rw [if_neg q]
                  exact tick 6 (by omega) (by omega)
              · rw [if_neg (show ¬ (22 : Int32) ≤ nI c from fun z => k22 ((cle 22 (by omega)).mp z))]
                exact a_sleep h hH hp hr
            · rw [if_neg (show ¬ (20 : Int32) ≤ nI c from fun z => k20 ((cle 20 (by omega)).mp z))]
              exact a_wake h hH hp hr hT
        · rw [if_neg (show ¬ (17 : Int32) ≤ nI c from fun z => k17 ((cle 17 (by omega)).mp z)), g8, show wk_rem (nI a / 8) 25 = nI (a / 8 % 25) from s_dm (d := 8) (e := 25) (by omega) (by omega) (by omega) (by omega) (by omega), show wk_rem (nI a / 200) 9 = nI (a / 200 % 9) from s_dm (d := 200) (e := 9) (by omega) (by omega) (by omega) (by omega) (by omega), nI_add, s_1a, s_lt_d, s_lt_d]
          have h25 : a / 8 % 25 < 25 := Nat.mod_lt _ (by omega)
          have h9 : a / 200 % 9 < 9 := Nat.mod_lt _ (by omega)
          exact a_use h hH hp hr hT (by omega) (by omega) (by omega) (by omega)
      · rw [if_neg (show ¬ (9 : Int32) ≤ nI c from fun z => k9 ((cle 9 (by omega)).mp z))]
        have la : ∀ k, k ≤ 5 → s_ok (f_L_acts_102 (nI a) (nI k) M) T 680 := fun k hk => a_lays h hH hp (by omega) hk (Or.inr hn)
        by_cases e2 : c = 2
        · rw [if_pos (show nI c = 2 from (ceq 2 (by omega)).mpr e2)]
          exact la 1 (by omega)
        · rw [if_neg (show ¬ nI c = 2 from fun z => e2 ((ceq 2 (by omega)).mp z))]
          by_cases k5 : 5 ≤ c
          · rw [if_pos (show (5 : Int32) ≤ nI c from (cle 5 (by omega)).mpr k5)]
            by_cases e5 : c = 5
            · rw [if_pos (show nI c = 5 from (ceq 5 (by omega)).mpr e5)]
              exact la 3 (by omega)
            · rw [if_neg (show ¬ nI c = 5 from fun z => e5 ((ceq 5 (by omega)).mp z))]
              by_cases e6 : c = 6
              · rw [if_pos (show nI c = 6 from (ceq 6 (by omega)).mpr e6)]
                exact la 4 (by omega)
              · rw [if_neg (show ¬ nI c = 6 from fun z => e6 ((ceq 6 (by omega)).mp z))]
                exact la 5 (by omega)
          · rw [if_neg (show ¬ (5 : Int32) ≤ nI c from fun z => k5 ((cle 5 (by omega)).mp z))]
            exact la 2 (by omega)
