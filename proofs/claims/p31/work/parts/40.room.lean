theorem s_dm {a d e : Nat} (ha : a < 2147483648) (h0 : 0 < d) (hd : d < 2147483648) (h1 : 0 < e) (he : e < 2147483648) : wk_rem (nI a / nI d) (nI e) = nI (a / d % e) := by
  rw [pk_div ha h0 hd]
  exact pk_rem (Nat.lt_of_le_of_lt (Nat.div_le_self a d) ha) h1 he
theorem s_rm {a e : Nat} (ha : a < 2147483648) (h1 : 0 < e) (he : e < 2147483648) : wk_rem (nI a) (nI e) = nI (a % e) := pk_rem ha h1 he
theorem s_1a (a : Nat) : (1 : Int32) + nI a = nI (1 + a) := nI_add 1 a
theorem s_anew {n : Nat} {v1 : Int32} : ∀ (d i f : Nat) (M : wk_T), 4 - i = d → i ≤ 4 → ∃ M', f_X2_startAnew_2 0 n (f + d + 1) v1 (nI i) M = some ((), M') ∧ (∀ k, i ≤ k → k < 4 → M' 8 0 n k = 0) ∧ (∀ k, k < i → M' 8 0 n k = M 8 0 n k) ∧ (M' 6 0 n 2 = v1 ∧ M' 6 0 n 3 = -1 ∧ M' 6 0 n 4 = -1 ∧ M' 6 0 n 5 = 0 ∧ M' 6 0 n 6 = 0 ∧ M' 6 0 n 7 = 0 ∧ M' 6 0 n 10 = 0 ∧ M' 6 0 n 11 = 0 ∧ M' 6 0 n 12 = 0 ∧ M' 6 0 n 13 = 0) ∧ ∀ k c j, ¬ ((k = 6 ∨ k = 8) ∧ c = 0 ∧ j = n) → M' k c j = M k c j := by
  intro d
  induction d with
  | zero =>
    intro i f M hd hi
    have hi4 : i = 4 := by omega
    subst hi4
    rw [f_X2_startAnew_2, if_pos (show (4 : Int32) ≤ nI 4 from Int32.le_refl _)]
    simp only [s_mu_d]
    refine ⟨_, rfl, fun k h1 h2 => by omega, fun k hk => ?_, ?_, fun k c j hk => ?_⟩
    · simp (disch := omega) only [u_n]
    · simp (disch := omega) only [u_e, u_n]
      exact ⟨trivial, trivial, trivial, trivial, trivial, trivial, trivial, trivial, trivial, trivial⟩
    · simp (disch := omega) only [u_r]
  | succ d ih =>
    intro i f M hd hi
    rw [show f + (d + 1) + 1 = (f + d + 1) + 1 by omega, f_X2_startAnew_2, if_neg (show ¬ (4 : Int32) ≤ nI i from fun z => by have := (nI_leI (a := 4) (b := i) (by omega) (by omega)).mp z; omega)]
    simp (disch := omega) only [s_gi, s_gj, s_cl, s_mu_d, s_lt_d, s_a1]
    obtain ⟨M', y1_, y2_, y3_, y4_, y5_⟩ := ih (i + 1) f (wk_up M 8 0 n i 0) (by omega) (by omega)
    refine ⟨M', y1_, fun k h1 h2 => ?_, fun k hk => ?_, y4_, fun k c j hk => (y5_ k c j hk).trans (u_r (by omega))⟩
    · by_cases q : k = i
      · subst q
        rw [y3_ k (by omega), u_e rfl rfl rfl rfl]
      · exact y2_ k (by omega) h2
    · rw [y3_ k (by omega), u_n (by omega)]
/-- a room more -/
theorem s_S_new {L C L' C' : wk_T} {n w t T kd wt : Nat} (h : s_S L C n w t T) (hn : n < 8) (hkd : kd < 2) (hw1 : 1 ≤ wt) (hw2 : wt ≤ 9) (a0 : L' 15 0 0 (8 * n) = nI kd) (a2 : L' 15 0 0 (8 * n + 2) = nI wt) (a6 : L' 15 0 0 (8 * n + 6) = -1) (a7 : L' 15 0 0 (8 * n + 7) = -1)
    (f0 : L' 14 0 0 0 = nI (n + 1)) (f14 : ∀ s, s ≠ 0 → L' 14 0 0 s = L 14 0 0 s) (f15 : ∀ s, s < 8 * n → L' 15 0 0 s = L 15 0 0 s) (f16 : L' 16 0 0 = L 16 0 0) (f17 : L' 17 0 0 = L 17 0 0) (f18 : L' 18 0 0 = L 18 0 0)
    (k0 : C' 0 0 0 1 = nI (n + 1)) (k6 : C' 0 0 0 6 = C 0 0 0 6) (k7 : C' 0 0 0 7 = C 0 0 0 7) (kk : ∀ k i, ¬ (k = 0 ∨ ((k = 6 ∨ k = 7 ∨ k = 8) ∧ i = n)) → C' k 0 i = C k 0 i)
    (b0 : C' 6 0 n 2 = nI kd) (b1 : C' 7 0 n 0 = L' 15 0 0 (8 * n + 1)) (b2 : C' 7 0 n 1 = L' 15 0 0 (8 * n + 2)) (b3 : C' 7 0 n 2 = L' 15 0 0 (8 * n + 3)) (b4 : C' 7 0 n 3 = L' 15 0 0 (8 * n + 4)) (b5 : C' 7 0 n 4 = L' 15 0 0 (8 * n + 5))
    (z : C' 6 0 n 3 = -1 ∧ C' 6 0 n 4 = -1 ∧ C' 6 0 n 5 = 0 ∧ C' 6 0 n 6 = 0 ∧ C' 6 0 n 7 = 0 ∧ C' 6 0 n 10 = 0 ∧ C' 6 0 n 11 = 0 ∧ C' 6 0 n 12 = 0 ∧ C' 6 0 n 13 = 0) (zp : ∀ k, k < 4 → C' 8 0 n k = 0) : s_S L' C' (n + 1) w t T := by
  obtain ⟨⟨g1, g2, g3, gT, g4, g5, g6, g7, g8, g9, g10, g11⟩, hR, hZ, hU⟩ := id h
  obtain ⟨z3, z4, z5, z6, z7, z10, z11, z12, z13⟩ := z
  have e2 : C' 2 0 0 = C 2 0 0 := kk 2 0 (by omega)
  have e3 : C' 3 0 0 = C 3 0 0 := kk 3 0 (by omega)
  have e4 : C' 4 0 0 = C 4 0 0 := kk 4 0 (by omega)
  have e5 : C' 5 0 0 = C 5 0 0 := kk 5 0 (by omega)
  refine ⟨⟨by omega, g2, g3, gT, f0, k0, by rw [f14 1 (by omega)]; exact g6, k6.trans g7, by rw [f14 2 (by omega)]; exact g8, k7.trans g9, by rw [f14 3 (by omega), e2]; exact g10, by rw [f14 4 (by omega), e2]; exact g11⟩, fun i hi => ?_, fun i hi1 hi2 => ?_, fun k hk => ?_⟩
  · by_cases q : i = n
    · subst q
      obtain ⟨y1, y2, y3⟩ := hZ i (Nat.le_refl _) hn
      have y10 : L 16 0 0 (8 * i) = 0 := y1 0 (by omega)
      have y20 : L 17 0 0 (4 * i) = 0 := y2 0 (by omega)
      refine ⟨?_, ?_⟩
      · unfold s_R
        rw [f16, f17, y10, y20, y1 3 (by omega), y1 4 (by omega), y1 5 (by omega), y1 6 (by omega), y1 7 (by omega), y2 1 (by omega), y2 2 (by omega), y2 3 (by omega), y3, b0, b1, b2, b3, b4, b5, z3, z4, z5, z6, z7, z10, z11, z12, z13, zp 0 (by omega), zp 1 (by omega), zp 2 (by omega), zp 3 (by omega)]
        exact ⟨⟨a0, rfl, rfl, rfl, rfl, rfl, a6, a7⟩, ⟨rfl, rfl, rfl, rfl, rfl, rfl⟩, ⟨rfl, rfl, rfl, rfl, rfl⟩, fun y => absurd y (by decide), fun y => absurd y (by decide), fun y => absurd (by decide) y⟩
      · unfold s_O
        rw [f16, y10, y1 5 (by omega), y1 7 (by omega)]
        exact ⟨⟨kd, hkd, a0, Or.inl a7⟩, ⟨wt, hw1, hw2, a2⟩, Or.inl a6, 0, by omega, rfl, ⟨0, by omega, rfl⟩, ⟨0, by omega, rfl, fun y => by omega⟩, fun y => by omega⟩
    · have x := hR i (by omega)
      unfold s_R s_O at x ⊢
      rw [f16, f17, kk 6 i (by omega), kk 7 i (by omega), kk 8 i (by omega)]
      simp (disch := omega) only [f15]
      exact x
  · have x := hZ i (by omega) hi2
    unfold s_Z at x ⊢
    rw [f16, f17]
    exact x
  · have x := hU k hk
    unfold s_U at x ⊢
    rw [f18, e3, e4, e5]
    obtain ⟨x1, x2, x3, r, tm, ln, x4, x5⟩ := x
    exact ⟨x1, x2, x3, r, tm, ln, by omega, x5⟩
set_option maxHeartbeats 2000000 in
theorem a_room {M : wk_T} {n w t T a : Nat} (h : s_S M M n w t T) (hH : s_Hs M) (hp : s_P0 M n) (ha : a < 2147483648) : s_ok (f_L_lays (nI a) 0 M) T 680 := by
  obtain ⟨⟨g1, g2, g3, gT, g4, g5, g6, g7, g8, g9, -⟩, -⟩ := id h
  have e2 : wk_rem (nI a) 2 = nI (a % 2) := s_rem2 ha
  have hk2 : f_X3_outside (nI (a % 2)) 0 1 M = some (0, M) := s_inN (lo := 0) (hi := 1) (by omega) (by omega) (by omega)
  unfold f_L_lays
  rw [if_pos rfl, s_lt_d, e2, g4]
  by_cases hn : n = 8
  · subst hn
    rw [if_pos (show nI 8 = 8 from rfl)]
    have hr1 : f_X3_room (nI (a % 2)) 0 1 1 0 0 M = some (-3, M) := by
      unfold f_X3_room
      rw [hk2, s_cl_d, if_pos rfl, show f_X3_outside 0 0 500 M = some (0, M) from s_in3 (by decide) (by decide), s_cl_d, if_pos rfl, show f_X3_outside 1 1 20 M = some (0, M) from s_in3 (by decide) (by decide), s_cl_d, if_pos rfl, show f_X3_outside 1 1 50 M = some (0, M) from s_in3 (by decide) (by decide), s_cl_d, if_pos rfl, show f_X3_outside 0 0 50 M = some (0, M) from s_in3 (by decide) (by decide), s_cl_d, if_pos rfl, show f_X3_outside 0 0 20 M = some (0, M) from s_in3 (by decide) (by decide), s_cl_d, if_pos rfl, g5, if_neg (show ¬ nI 8 < 8 by decide)]
    have hr2 : f_X3_room 2 0 1 1 0 0 M = some (-1, M) := by
      unfold f_X3_room
      rw [show f_X3_outside 2 0 1 M = some (1, M) by unfold f_X3_outside; rw [if_neg (show ¬ (2 : Int32) < 0 by decide), if_neg (show ¬ (2 : Int32) ≤ 1 by decide)], s_cl_d, if_neg (show ¬ (1 : Int32) = 0 by decide)]
    refine ⟨M, 8, w, t, T, ?_, h, hH, Nat.le_refl _, by omega, hp, by omega⟩
    rw [hr1, s_cl_d, if_pos rfl, hr2, s_cl_d, if_pos rfl]
  · have hlt : n < 8 := by omega
    rw [if_neg (show ¬ nI n = 8 from fun y => hn ((nI_eq (a := n) (b := 8) (by omega) (by omega)).mp y))]
    rw [show wk_rem (nI a / 2) 80 = nI (a / 2 % 80) from s_dm (d := 2) (e := 80) ha (by omega) (by omega) (by omega) (by omega), show wk_rem (nI a / 7) 9 = nI (a / 7 % 9) from s_dm (d := 7) (e := 9) ha (by omega) (by omega) (by omega) (by omega), show wk_rem (nI a / 11) 50 = nI (a / 11 % 50) from s_dm (d := 11) (e := 50) ha (by omega) (by omega) (by omega) (by omega), show wk_rem (nI a / 13) 51 = nI (a / 13 % 51) from s_dm (d := 13) (e := 51) ha (by omega) (by omega) (by omega) (by omega), show wk_rem (nI a / 17) 21 = nI (a / 17 % 21) from s_dm (d := 17) (e := 21) ha (by omega) (by omega) (by omega) (by omega), s_1a, s_1a]
    simp (disch := omega) only [s_m8, s_a1, s_a2, s_a3, s_a4, s_a5, s_a6, s_a7, s_gi, s_gj, s_cl, s_mu_d, s_lt_d, u_e, u_n]
    rw [g4, s_a1]
    generalize hL : wk_up (wk_up (wk_up (wk_up (wk_up (wk_up (wk_up (wk_up (wk_up M 15 0 0 (8 * n) (nI (a % 2))) 15 0 0 (8 * n + 1) (nI (a / 2 % 80))) 15 0 0 (8 * n + 2) (nI (1 + a / 7 % 9))) 15 0 0 (8 * n + 3) (nI (1 + a / 11 % 50))) 15 0 0 (8 * n + 4) (nI (a / 13 % 51))) 15 0 0 (8 * n + 5) (nI (a / 17 % 21))) 15 0 0 (8 * n + 6) (-1)) 15 0 0 (8 * n + 7) (-1)) 14 0 0 0 (nI (n + 1)) = L'
    have v0 : L' 15 0 0 (8 * n) = nI (a % 2) := by rw [← hL]; simp (disch := omega) only [u_e, u_n]
    have v1 : L' 15 0 0 (8 * n + 1) = nI (a / 2 % 80) := by rw [← hL]; simp (disch := omega) only [u_e, u_n]
    have v2 : L' 15 0 0 (8 * n + 2) = nI (1 + a / 7 % 9) := by rw [← hL]; simp (disch := omega) only [u_e, u_n]
    have v3 : L' 15 0 0 (8 * n + 3) = nI (1 + a / 11 % 50) := by rw [← hL]; simp (disch := omega) only [u_e, u_n]
    have v4 : L' 15 0 0 (8 * n + 4) = nI (a / 13 % 51) := by rw [← hL]; simp (disch := omega) only [u_e, u_n]
    have v5 : L' 15 0 0 (8 * n + 5) = nI (a / 17 % 21) := by rw [← hL]; simp (disch := omega) only [u_e, u_n]
    have v6 : L' 15 0 0 (8 * n + 6) = -1 := by rw [← hL]; simp (disch := omega) only [u_e, u_n]
    have v7 : L' 15 0 0 (8 * n + 7) = -1 := by rw [← hL]; simp (disch := omega) only [u_e, u_n]
    have w0 : L' 14 0 0 0 = nI (n + 1) := by rw [← hL]; simp (disch := omega) only [u_e]
    have w14 : ∀ s, s ≠ 0 → L' 14 0 0 s = M 14 0 0 s := fun s hs => by rw [← hL]; simp (disch := omega) only [u_n]
    have w15 : ∀ s, s < 8 * n → L' 15 0 0 s = M 15 0 0 s := fun s hs => by rw [← hL]; simp (disch := omega) only [u_n]
    have wr : ∀ k i, k ≠ 14 → k ≠ 15 → L' k 0 i = M k 0 i := fun k i h1 h2 => by rw [← hL]; simp (disch := omega) only [u_r]
    clear hL
    have hSL : s_S M L' n w t T := s_S_c h (fun _ _ => rfl) (fun k i hk => wr k i (by omega) (by omega))
    have hHL : s_Hs L' := s_Hs_c hH (wr 9 0 (by omega) (by omega)) (wr 10 0 (by omega) (by omega)) (wr 11 0 (by omega) (by omega))
    obtain ⟨M1, x1_, x2_, x3_, x4_⟩ := j_change (v := nI n) hSL hHL
    obtain ⟨M2, y1_, y2_, -, y4_, y5_⟩ := s_anew (n := n) (v1 := nI (a % 2)) (4 - 0) 0 95 M1 rfl (by omega)
    have hgM1 : M1 0 0 0 1 = nI n := x2_.1.2.2.2.2.2.1
    have hgM2 : M2 0 0 0 1 = nI n := by rw [y5_ 0 0 0 (by omega)]; exact hgM1
    obtain ⟨p2, p3, p4, p5, p6, p7, p10, p11, p12, p13⟩ := y4_
    obtain ⟨M3, q1_, q2_, q3_, q4_⟩ := x4_ L' (wk_up (wk_up (wk_up (wk_up (wk_up (wk_up M2 7 0 n 0 (nI (a / 2 % 80))) 7 0 n 1 (nI (1 + a / 7 % 9))) 7 0 n 2 (nI (1 + a / 11 % 50))) 7 0 n 3 (nI (a / 13 % 51))) 7 0 n 4 (nI (a / 17 % 21))) 0 0 0 1 (nI (n + 1))) (n + 1) w t T
      ((s_c.tr (fun k c j hk => y5_ k c j (by omega)) (s_c.up (by omega))).tr ((((s_c.up (by omega)).tr (s_c.up (by omega))).tr (s_c.up (by omega))).tr ((s_c.up (by omega)).tr (s_c.up (by omega)))))
      (s_S_new x2_ hlt (kd := a % 2) (wt := 1 + a / 7 % 9) (by omega) (by omega) (by omega) v0 v2 v6 v7 w0 w14 w15 (wr 16 0 (by omega) (by omega)) (wr 17 0 (by omega) (by omega)) (wr 18 0 (by omega) (by omega))
        (by simp (disch := omega) only [u_e]) (by simp (disch := omega) only [u_n]; rw [y5_ 0 0 0 (by omega)]) (by simp (disch := omega) only [u_n]; rw [y5_ 0 0 0 (by omega)]) (fun k i hk => by simp (disch := omega) only [u_r]; exact y5_ k 0 i (by omega))
        (by simp (disch := omega) only [u_n]; exact p2) (by rw [v1]; simp (disch := omega) only [u_e, u_n]) (by rw [v2]; simp (disch := omega) only [u_e, u_n]) (by rw [v3]; simp (disch := omega) only [u_e, u_n]) (by rw [v4]; simp (disch := omega) only [u_e, u_n]) (by rw [v5]; simp (disch := omega) only [u_e, u_n])
        (by simp (disch := omega) only [u_n]; exact ⟨p3, p4, p5, p6, p7, p10, p11, p12, p13⟩) (fun k hk => by simp (disch := omega) only [u_n]; exact y2_ k (by omega) hk)) (fun _ _ => rfl)
    have hroom : f_X3_room (nI (a % 2)) (nI (a / 2 % 80)) (nI (1 + a / 7 % 9)) (nI (1 + a / 11 % 50)) (nI (a / 13 % 51)) (nI (a / 17 % 21)) L' = some (nI n, M3) := by
      unfold f_X3_room
      rw [show f_X3_outside (nI (a % 2)) 0 1 L' = some (0, L') from s_inN (lo := 0) (hi := 1) (by omega) (by omega) (by omega), s_cl_d, if_pos rfl, show f_X3_outside (nI (a / 2 % 80)) 0 500 L' = some (0, L') from s_inN (lo := 0) (hi := 500) (by omega) (by omega) (by omega), s_cl_d, if_pos rfl, show f_X3_outside (nI (1 + a / 7 % 9)) 1 20 L' = some (0, L') from s_inN (lo := 1) (hi := 20) (by omega) (by omega) (by omega), s_cl_d, if_pos rfl, show f_X3_outside (nI (1 + a / 11 % 50)) 1 50 L' = some (0, L') from s_inN (lo := 1) (hi := 50) (by omega) (by omega) (by omega), s_cl_d, if_pos rfl, show f_X3_outside (nI (a / 13 % 51)) 0 50 L' = some (0, L') from s_inN (lo := 0) (hi := 50) (by omega) (by omega) (by omega), s_cl_d, if_pos rfl, show f_X3_outside (nI (a / 17 % 21)) 0 20 L' = some (0, L') from s_inN (lo := 0) (hi := 20) (by omega) (by omega) (by omega), s_cl_d, if_pos rfl, show L' 0 0 0 1 = nI n from hSL.1.2.2.2.2.2.1, if_pos (show nI n < 8 from (nI_ltI (a := n) (b := 8) (by omega) (by omega)).mpr hlt), x1_, s_cl_d, hgM1]
      simp (disch := omega) only [s_gi, s_gj, s_cl, s_mu_d]
      rw [show f_X2_startAnew 0 n (nI (a % 2)) M1 = some ((), M2) from y1_, s_cl_d]
      simp (disch := omega) only [u_n]
      rw [hgM2, s_a1]
      simp (disch := omega) only [u_e]
      rw [s_p1, q1_, s_cl_d]
    refine ⟨M3, n + 1, w, t, T, ?_, q2_, q3_, Nat.le_refl _, by omega, fun rl hrl => ?_, Nat.succ_pos _⟩
    · rw [hroom, s_cl_d]
      have hM314 : M3 14 0 0 0 = nI (n + 1) := q2_.1.2.2.2.2.1
      rw [hM314, s_p1, if_pos rfl]
    · have h15 : M3 15 0 0 = L' 15 0 0 := by
        rw [q4_ 15 0 (by omega) (by omega)]
        simp (disch := omega) only [u_r]
        rw [y5_ 15 0 0 (by omega), x3_]
      rw [s_cnt_c h15, s_cnt, v7, if_neg (show ¬ (-1 : Int32) = rl by rcases hrl with rfl | rfl <;> decide), Nat.add_zero]
      have hsame : ∀ i, i ≤ n → s_cnt L' rl i = s_cnt M rl i := by
        intro i
        induction i with
        | zero => intro _; rfl
        | succ i ih =>
          intro hi
          rw [s_cnt, s_cnt, ih (by omega), w15 _ (by omega)]
      rw [hsame n (Nat.le_refl _)]
      exact hp rl hrl
