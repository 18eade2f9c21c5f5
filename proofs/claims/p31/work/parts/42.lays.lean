/-- what the class answers to unplug -/
theorem s_plugO {L C : wk_T} {n w t T r : Nat} (h : s_S L C n w t T) (hr : r < n) : f_X0_plugOut 0 (nI r) C = if L 15 0 0 (8 * r + 7) = -1 then some (-2, C) else if L 16 0 0 (8 * r) = 0 then wk_cl (f_X0_pluggedInto 0 (L 15 0 0 (8 * r + 7)) (wk_up C 6 0 r 4 (-1))) (fun r9 M10 => some (r9, M10)) else some (-2, C) := by
  obtain ⟨⟨g1, g2, g3, gT, g4, g5, -⟩, hR, -⟩ := id h
  obtain ⟨⟨⟨a0, -, -, -, -, -, -, a7⟩, ⟨b0, -⟩, -⟩, -⟩ := hR r hr
  unfold f_X0_plugOut
  rw [s_hasRoom g5 hr g1, s_cl_d, if_neg (show ¬ (1 : Int32) = 0 by decide)]
  simp (disch := omega) only [s_gi, s_gj, s_cl, s_lt_d, s_mu_d]
  rw [← a7, ← b0]
theorem s_cntO {M : wk_T} {n r : Nat} {rl : Int32} (hn : n ≤ 8) (g4 : M 14 0 0 0 = nI n) (hr : r < n) (hrl : ¬ rl = -1) : ∀ d i f, n - i = d → i ≤ n → f_L_lays_592 (f + d + 1) (nI r) rl (nI (s_cnt (wk_up M 15 0 0 (8 * r + 7) (-1)) rl i)) (nI i) M = f_L_lays_592 1 (nI r) rl (nI (s_cnt (wk_up M 15 0 0 (8 * r + 7) (-1)) rl n)) (nI n) M := by
  intro d
  induction d with
  | zero =>
    intro i f hd hi
    have hin : i = n := by omega
    subst hin
    rw [f_L_lays_592, f_L_lays_592, g4, if_pos (show nI i ≤ nI i from Int32.le_refl _), if_pos (show nI i ≤ nI i from Int32.le_refl _)]
  | succ d ih =>
    intro i f hd hi
    rw [show f + (d + 1) + 1 = (f + d + 1) + 1 by omega, f_L_lays_592, g4, if_neg (show ¬ nI n ≤ nI i by rw [s_leI (by omega) (by omega)]; omega)]
    unfold f_L_lays_628 f_L_lays_629
    simp (disch := omega) only [s_m8, s_a7, s_gi, s_gj, s_cl, s_lt_d, s_a1]
    have hs : s_cnt (wk_up M 15 0 0 (8 * r + 7) (-1)) rl (i + 1) = s_cnt (wk_up M 15 0 0 (8 * r + 7) (-1)) rl i + if wk_up M 15 0 0 (8 * r + 7) (-1) 15 0 0 (8 * i + 7) = rl then 1 else 0 := rfl
    by_cases q2 : i = r
    · subst q2
      rw [u_e rfl rfl rfl rfl, if_neg (show ¬ (-1 : Int32) = rl from fun z => hrl z.symm)] at hs
      rw [if_pos (show nI i = nI i from rfl)]
      have e := ih (i + 1) f (by omega) (by omega)
      rw [hs, Nat.add_zero] at e
      by_cases q : M 15 0 0 (8 * i + 7) = rl
      · rw [if_pos q, Int32.add_zero]
        exact e
      · rw [if_neg q, Int32.add_zero]
        exact e
    · rw [u_n (show ¬ (15 = 15 ∧ 0 = 0 ∧ 0 = 0 ∧ 8 * i + 7 = 8 * r + 7) by omega)] at hs
      have e := ih (i + 1) f (by omega) (by omega)
      rw [hs] at e
      rw [if_neg (show ¬ nI i = nI r by rw [s_eqI (by omega) (by omega)]; exact q2)]
      by_cases q : M 15 0 0 (8 * i + 7) = rl
      · rw [if_pos q] at e ⊢
        exact e
      · rw [if_neg q] at e ⊢
        rw [Int32.add_zero]
        exact e
theorem a_unplug {M : wk_T} {n w t T a : Nat} (h : s_S M M n w t T) (hH : s_Hs M) (hp : s_P M n) (ha : a < 2147483648) (h0 : 0 < n) : s_ok (f_L_lays (nI a) 3 M) T 680 := by
  obtain ⟨⟨g1, g2, g3, gT, g4, g5, -⟩, hR, -⟩ := id h
  have hr : a % n < n := Nat.mod_lt _ h0
  have e1 : wk_rem (nI a) (nI n) = nI (a % n) := s_rm ha h0 (by omega)
  unfold f_L_lays
  rw [if_neg (show ¬ (3 : Int32) = 0 by decide), g4, s_gd (show ¬ nI n = 0 by rw [s_e0 (by omega)]; omega), s_lt_d, if_neg (show ¬ (3 : Int32) = 1 by decide), if_neg (show ¬ (3 : Int32) = 2 by decide), if_pos rfl, e1]
  generalize hr2 : a % n = r at hr ⊢
  obtain ⟨⟨⟨a0, -, -, -, -, -, -, a7⟩, ⟨b0, -⟩, -⟩, ⟨kd, kd1, kd2, kd3⟩, -, -, st, st1, st2, -⟩ := hR r hr
  simp (disch := omega) only [s_m8, s_a7, s_gi, s_gj, s_cl, s_lt_d]
  have refuse : (M 15 0 0 (8 * r + 7) = -1 ∨ ¬ M 16 0 0 (8 * r) = 0) → s_ok (f_L_lays_569 (nI r) M) T 680 := by
    intro hq
    obtain ⟨M3, m1_, m2_, m3_, m4_⟩ := j_ref (op := fun M2 => f_X0_plugOut 0 (nI r) M2) (v := -2) h hH (fun Mx hx1 hx2 => by
      show f_X0_plugOut 0 (nI r) Mx = _
      rw [s_plugO hx1 hr]
      by_cases q1 : M 15 0 0 (8 * r + 7) = -1
      · rw [if_pos q1]
      · rw [if_neg q1, if_neg (hq.resolve_left q1)])
    refine ⟨M3, n, w, t, T, ?_, m2_, m3_, by omega, by omega, s_P_c hp (m4_ 15 (by omega))⟩
    unfold f_L_lays_569
    rw [show f_X3_unplug (nI r) M = _ from m1_, s_cl_d, if_pos rfl]
  rcases kd3 with q1 | q1
  · rw [if_pos (show M 15 0 0 (8 * r + 7) < 0 by rw [q1]; decide)]
    exact refuse (Or.inl q1)
  · have hn1 : ¬ nI kd = -1 := s_nm (by omega)
    rw [if_neg (show ¬ M 15 0 0 (8 * r + 7) < 0 by rw [q1]; exact s_neg (by omega))]
    by_cases q2 : M 16 0 0 (8 * r) = 0
    · rw [if_pos (show M 16 0 0 (8 * r) ≤ 0 by rw [q2]; decide), q1]
      have e := s_cntO (r := r) (rl := nI kd) g1 g4 hr hn1 (n - 0) 0 (99 - (n - 0)) rfl (by omega)
      rw [show (99 - (n - 0)) + (n - 0) + 1 = wk_fuel by show _ = 100; omega] at e
      rw [show f_L_lays_592 wk_fuel (nI r) (nI kd) 0 0 M = _ from e, f_L_lays_592, g4, if_pos (show nI n ≤ nI n from Int32.le_refl _)]
      simp (disch := omega) only [s_m8, s_a7, s_gi, s_gj, s_cl, s_mu_d]
      obtain ⟨hSL, hHL⟩ := s_law15 (s := 8 * r + 7) (v := -1) h hH
      obtain ⟨M3, m1_, m2_, m3_, m4_⟩ := j_op (op := fun M2 => f_X0_plugOut 0 (nI r) M2) (L2 := wk_up M 15 0 0 (8 * r + 7) (-1)) (n' := n) (w' := w) (t' := t) (T' := T) (v := nI (s_cnt (wk_up M 15 0 0 (8 * r + 7) (-1)) (nI kd) n)) hSL hHL (fun Mx hx1 hx2 => by
        refine ⟨wk_up Mx 6 0 r 4 (-1), ?_, s_c.up (by omega), j_rail hx1 hr (Or.inl rfl)⟩
        show f_X0_plugOut 0 (nI r) Mx = _
        rw [s_plugO hx1 hr, q1, if_neg hn1, if_pos q2, s_plugged (j_rail hx1 hr (Or.inl rfl)), s_cl_d]) (fun _ _ => rfl)
      refine ⟨M3, n, w, t, T, ?_, m2_, m3_, by omega, by omega, fun rl hrl => ?_, hp.2⟩
      · rw [show f_X3_unplug (nI r) (wk_up M 15 0 0 (8 * r + 7) (-1)) = _ from m1_, s_cl_d, if_pos rfl]
      · rw [s_cnt_c (m4_ 15 (by omega))]
        have hcv := s_cnt_up (M := M) (rl := rl) (v := -1) (r := r) n
        have hrl2 : ¬ (-1 : Int32) = rl := fun z => by
          rcases hrl with q | q <;> exact s_nm (a := _) (by decide) (q.symm.trans z.symm)
        rw [if_neg (show ¬ (r < n ∧ (-1 : Int32) = rl) from fun z => hrl2 z.2)] at hcv
        have := hp.1 rl hrl
        omega
    · rw [if_neg (show ¬ M 16 0 0 (8 * r) ≤ 0 from fun z => q2 (by
        rw [st2] at z ⊢
        have := (nI_leI (a := st) (b := 0) (by omega) (by omega)).mp z
        rw [show st = 0 by omega]
        rfl))]
      exact refuse (Or.inr q2)
theorem j_limit {L C : wk_T} {n w t T x : Nat} {v : Int32} (h : s_S L C n w t T) (hx : x < 2) : s_S (wk_up L 14 0 0 (3 + x) v) (wk_up C 2 0 0 x v) n w t T := by
  obtain ⟨⟨g1, g2, g3, gT, g4, g5, g6, g7, g8, g9, g10, g11⟩, hR, hZ, hU⟩ := h
  refine ⟨⟨g1, g2, g3, gT, ?_⟩, fun i hi => ?_, fun i hi1 hi2 => ?_, fun k hk => ?_⟩
  · rcases (show x = 0 ∨ x = 1 by omega) with rfl | rfl
    · simp (disch := omega) only [u_e, u_n]
      exact ⟨g4, g5, g6, g7, g8, g9, trivial, g11⟩
    · simp (disch := omega) only [u_e, u_n]
      exact ⟨g4, g5, g6, g7, g8, g9, g10, trivial⟩
  · have q := hR i hi
    unfold s_R s_O at q ⊢
    simp (disch := omega) only [u_n]
    exact q
  · have q := hZ i hi1 hi2
    unfold s_Z at q ⊢
    simp (disch := omega) only [u_n]
    exact q
  · have q := hU k hk
    unfold s_U at q ⊢
    simp (disch := omega) only [u_n]
    exact q
theorem a_limit {M : wk_T} {n w t T a : Nat} (h : s_S M M n w t T) (hH : s_Hs M) (hp : s_P M n) (ha : a < 2147483648) (h0 : 0 < n) : s_ok (f_L_lays (nI a) 4 M) T 680 := by
  obtain ⟨⟨g1, g2, g3, gT, g4, g5, g6, g7, g8, g9, g10, g11⟩, hR, -⟩ := id h
  have e1 : wk_rem (nI a) (nI n) = nI (a % n) := s_rm ha h0 (by omega)
  have e2 : wk_rem (nI a) 2 = nI (a % 2) := s_rm (e := 2) ha (by omega) (by omega)
  have e3 : wk_rem (nI a / 2) 4 = nI (a / 2 % 4) := s_dm (d := 2) (e := 4) ha (by omega) (by omega) (by omega) (by omega)
  have hx : a % 2 < 2 := Nat.mod_lt _ (by omega)
  have hv : a / 2 % 4 < 4 := Nat.mod_lt _ (by omega)
  unfold f_L_lays
  rw [if_neg (show ¬ (4 : Int32) = 0 by decide), g4, s_gd (show ¬ nI n = 0 by rw [s_e0 (by omega)]; omega), s_lt_d, if_neg (show ¬ (4 : Int32) = 1 by decide), if_neg (show ¬ (4 : Int32) = 2 by decide), if_neg (show ¬ (4 : Int32) = 3 by decide), if_pos rfl, e2, e3, s_lt_d]
  generalize a % 2 = x at hx ⊢
  generalize a / 2 % 4 = v at hv ⊢
  simp (disch := omega) only [s_3a, s_1a, s_gi, s_gj, s_cl, s_mu_d, s_lt_d, u_e]
  have hold : M 14 0 0 (3 + x) = M 2 0 0 x := by
    rcases (show x = 0 ∨ x = 1 by omega) with rfl | rfl
    · exact g10
    · exact g11
  have hSL : s_S M (wk_up M 14 0 0 (3 + x) (nI (1 + v))) n w t T := s_S_c h (fun _ _ => rfl) (fun k i hk => u_r (by omega))
  have hHL : s_Hs (wk_up M 14 0 0 (3 + x) (nI (1 + v))) := s_Hs_c hH (u_r (by omega)) (u_r (by omega)) (u_r (by omega))
  obtain ⟨M3, m1_, m2_, m3_, m4_⟩ := j_op (op := fun M2 => f_X0_setLimit 0 (nI x) (nI (1 + v)) M2) (L2 := wk_up M 14 0 0 (3 + x) (nI (1 + v))) (n' := n) (w' := w) (t' := t) (T' := T) (v := M 14 0 0 (3 + x)) hSL hHL (fun Mx hx1 hx2 => by
    refine ⟨wk_up Mx 2 0 0 x (nI (1 + v)), ?_, s_c.up (by omega), j_limit hx1 hx⟩
    show f_X0_setLimit 0 (nI x) (nI (1 + v)) Mx = _
    unfold f_X0_setLimit
    rw [show f_X3_outside (nI x) 0 1 Mx = some (0, Mx) from s_inN (lo := 0) (hi := 1) (by omega) (by omega) (by omega), s_cl_d, if_pos rfl, show f_X3_outside (nI (1 + v)) 1 4 Mx = some (0, Mx) from s_inN (lo := 1) (hi := 4) (by omega) (by omega) (by omega), s_cl_d, if_pos rfl]
    simp (disch := omega) only [s_gi, s_gj, s_cl, s_mu_d, s_lt_d]
    obtain ⟨⟨-, -, -, -, -, -, -, -, -, -, y10, y11⟩, -⟩ := id hx1
    have hy : M 14 0 0 (3 + x) = Mx 2 0 0 x := by
      rcases (show x = 0 ∨ x = 1 by omega) with rfl | rfl
      · exact y10
      · exact y11
    rw [← hy]) (fun _ _ => rfl)
  refine ⟨M3, n, w, t, T, ?_, m2_, m3_, by omega, by omega, s_P_c hp ((m4_ 15 (by omega)).trans (u_r (by omega)))⟩
  rw [show f_X3_limit (nI x) (nI (1 + v)) (wk_up M 14 0 0 (3 + x) (nI (1 + v))) = _ from m1_, s_cl_d, if_pos rfl]
theorem j_policy {L C : wk_T} {n w t T r : Nat} {x y : Int32} (h : s_S L C n w t T) (hr : r < n) : s_S (wk_up (wk_up L 16 0 0 (8 * r + 3) x) 16 0 0 (8 * r + 4) y) (wk_up (wk_up C 6 0 r 5 x) 6 0 r 6 y) n w t T := by
  obtain ⟨⟨g1, g2, g3, gT, -⟩, hR, -⟩ := id h
  obtain ⟨⟨⟨a0, a1, a2, a3, a4, a5, a6, a7⟩, ⟨b0, b3, b4, b5, b6, b7⟩, ⟨e0, e1, e2, e3, e4⟩, c1, c2, c3⟩, ho⟩ := hR r hr
  refine s_S_room h hr (Nat.le_refl _) gT (fun s => ?_) (fun s => ?_) (fun s => ?_) (fun s hs => ?_) (fun s hs1 hs2 hs3 => ?_) (fun k i hk => ?_) ?_ ?_
  · simp (disch := omega) only [u_n]
  · simp (disch := omega) only [u_n]
  · simp (disch := omega) only [u_n]
  · simp (disch := omega) only [u_n]
  · simp (disch := omega) only [u_n]
  · simp (disch := omega) only [u_r]
  · unfold s_R
    simp (disch := omega) only [u_e, u_n]
    exact ⟨⟨a0, a1, a2, a3, a4, a5, a6, a7⟩, ⟨b0, trivial, trivial, b5, b6, b7⟩, ⟨e0, e1, e2, e3, e4⟩, c1, c2, c3⟩
  · unfold s_O at ho ⊢
    simp (disch := omega) only [u_n]
    exact ho
theorem a_policy {M : wk_T} {n w t T a : Nat} (h : s_S M M n w t T) (hH : s_Hs M) (hp : s_P M n) (ha : a < 2147483648) (h0 : 0 < n) : s_ok (f_L_lays (nI a) 5 M) T 680 := by
  obtain ⟨⟨g1, g2, g3, gT, g4, g5, -⟩, hR, -⟩ := id h
  have hr : a % n < n := Nat.mod_lt _ h0
  have e1 : wk_rem (nI a) (nI n) = nI (a % n) := s_rm ha h0 (by omega)
  have e2 : wk_rem (nI a / 8) 12 = nI (a / 8 % 12) := s_dm (d := 8) (e := 12) ha (by omega) (by omega) (by omega) (by omega)
  have e3 : wk_rem (nI a / 96) 3 = nI (a / 96 % 3) := s_dm (d := 96) (e := 3) ha (by omega) (by omega) (by omega) (by omega)
  have hx : a / 8 % 12 < 12 := Nat.mod_lt _ (by omega)
  have hy : a / 96 % 3 < 3 := Nat.mod_lt _ (by omega)
  unfold f_L_lays
  rw [if_neg (show ¬ (5 : Int32) = 0 by decide), g4, s_gd (show ¬ nI n = 0 by rw [s_e0 (by omega)]; omega), s_lt_d, if_neg (show ¬ (5 : Int32) = 1 by decide), if_neg (show ¬ (5 : Int32) = 2 by decide), if_neg (show ¬ (5 : Int32) = 3 by decide), if_neg (show ¬ (5 : Int32) = 4 by decide), e1, e2, e3]
  generalize a % n = r at hr ⊢
  generalize a / 8 % 12 = x at hx ⊢
  generalize a / 96 % 3 = y at hy ⊢
  obtain ⟨⟨-, ⟨b0, b3, b4, -⟩, -⟩, -⟩ := hR r hr
  simp (disch := omega) only [s_m8, s_a3, s_a4, s_gi, s_gj, s_cl, s_mu_d, s_lt_d, u_e, u_n]
  have hl : s_l M (wk_up (wk_up M 16 0 0 (8 * r + 3) (nI x)) 16 0 0 (8 * r + 4) (nI y)) := (s_l.up (by omega)).tr (s_l.up (by omega))
  have hSL : s_S M (wk_up (wk_up M 16 0 0 (8 * r + 3) (nI x)) 16 0 0 (8 * r + 4) (nI y)) n w t T := s_S_c h (fun _ _ => rfl) (fun k i hk => hl k 0 i (by omega))
  have hHL := s_Hs_c hH (hl 9 0 0 (by omega)) (hl 10 0 0 (by omega)) (hl 11 0 0 (by omega))
  obtain ⟨M3, m1_, m2_, m3_, m4_⟩ := j_op (op := fun M2 => f_X0_setPolicy 0 (nI r) (nI x) (nI y) M2) (L2 := wk_up (wk_up M 16 0 0 (8 * r + 3) (nI x)) 16 0 0 (8 * r + 4) (nI y)) (n' := n) (w' := w) (t' := t) (T' := T) (v := 10 * M 16 0 0 (8 * r + 3) + M 16 0 0 (8 * r + 4)) hSL hHL (fun Mx hx1 hx2 => by
    refine ⟨wk_up (wk_up Mx 6 0 r 5 (nI x)) 6 0 r 6 (nI y), ?_, (s_c.up (by omega)).tr (s_c.up (by omega)), j_policy hx1 hr⟩
    obtain ⟨⟨-, -, -, -, -, y5, -⟩, yR, -⟩ := id hx1
    obtain ⟨⟨-, ⟨-, y3, y4, -⟩, -⟩, -⟩ := yR r hr
    show f_X0_setPolicy 0 (nI r) (nI x) (nI y) Mx = _
    unfold f_X0_setPolicy
    rw [s_hasRoom y5 hr g1, s_cl_d, if_neg (show ¬ (1 : Int32) = 0 by decide), show f_X3_outside (nI x) 0 99 Mx = some (0, Mx) from s_inN (lo := 0) (hi := 99) (by omega) (by omega) (by omega), s_cl_d, if_pos rfl, show f_X3_outside (nI y) 0 2 Mx = some (0, Mx) from s_inN (lo := 0) (hi := 2) (by omega) (by omega) (by omega), s_cl_d, if_pos rfl]
    simp (disch := omega) only [s_gi, s_gj, s_cl, s_mu_d, s_lt_d]
    rw [← y3, ← y4]) (fun _ _ => rfl)
  refine ⟨M3, n, w, t, T, ?_, m2_, m3_, by omega, by omega, s_P_c hp ((m4_ 15 (by omega)).trans (hl 15 0 0 (by omega)))⟩
  rw [show f_X3_policy (nI r) (nI x) (nI y) (wk_up (wk_up M 16 0 0 (8 * r + 3) (nI x)) 16 0 0 (8 * r + 4) (nI y)) = _ from m1_, s_cl_d, if_pos rfl]
