/-- one room changes, its row of costs and ties too -/
theorem s_S_rm {L C L' C' : wk_T} {n w t T r : Nat} (h : s_S L C n w t T) (hr : r < n) (h14 : ∀ s, L' 14 0 0 s = L 14 0 0 s) (h18 : ∀ s, L' 18 0 0 s = L 18 0 0 s) (h15 : ∀ s, ¬ (8 * r ≤ s ∧ s < 8 * r + 8) → L' 15 0 0 s = L 15 0 0 s) (h16 : ∀ s, L' 16 0 0 s = L 16 0 0 s)
    (h17 : ∀ s, L' 17 0 0 s = L 17 0 0 s) (hC : ∀ k i, ¬ (6 ≤ k ∧ k ≤ 8 ∧ i = r) → C' k 0 i = C k 0 i) (h1 : s_R L' C' r) (h2 : s_O L' r T) : s_S L' C' n w t T := by
  obtain ⟨⟨g1, g2, g3, gT, g4, g5, g6, g7, g8, g9, g10, g11⟩, hR, hZ, hU⟩ := h
  have e0 : C' 0 0 0 = C 0 0 0 := hC 0 0 (by omega)
  have e2 : C' 2 0 0 = C 2 0 0 := hC 2 0 (by omega)
  have e3 : C' 3 0 0 = C 3 0 0 := hC 3 0 (by omega)
  have e4 : C' 4 0 0 = C 4 0 0 := hC 4 0 (by omega)
  have e5 : C' 5 0 0 = C 5 0 0 := hC 5 0 (by omega)
  refine ⟨⟨g1, g2, g3, gT, by rw [h14]; exact g4, by rw [e0]; exact g5, by rw [h14]; exact g6, by rw [e0]; exact g7, by rw [h14]; exact g8, by rw [e0]; exact g9, by rw [h14, e2]; exact g10, by rw [h14, e2]; exact g11⟩, fun i hi => ?_, fun i hi1 hi2 => ?_, fun k hk => ?_⟩
  · by_cases q : i = r
    · subst q
      exact ⟨h1, h2⟩
    · obtain ⟨q1, q2⟩ := hR i hi
      have f6 : C' 6 0 i = C 6 0 i := hC 6 i (by omega)
      have f7 : C' 7 0 i = C 7 0 i := hC 7 i (by omega)
      have f8 : C' 8 0 i = C 8 0 i := hC 8 i (by omega)
      refine ⟨?_, ?_⟩
      · unfold s_R at q1 ⊢
        rw [f6, f7, f8]
        simp (disch := omega) only [h15, h16, h17]
        exact q1
      · unfold s_O at q2 ⊢
        simp (disch := omega) only [h15, h16]
        exact q2
  · have q := hZ i hi1 hi2
    unfold s_Z at q ⊢
    simp only [h16, h17]
    exact q
  · have q := hU k hk
    unfold s_U at q ⊢
    rw [e3, e4, e5]
    simp only [h18]
    exact q
theorem s_self {M : wk_T} {k c i s : Nat} : wk_up M k c i s (M k c i s) = M := by
  funext k' c' i' s'
  by_cases q : k' = k ∧ c' = c ∧ i' = i ∧ s' = s
  · obtain ⟨rfl, rfl, rfl, rfl⟩ := q
    exact u_e rfl rfl rfl rfl
  · exact u_n q
/-- a tie to another room is set, or a place on a rail -/
theorem j_tie {L C : wk_T} {n w t T r : Nat} {v : Int32} (h : s_S L C n w t T) (hr : r < n) (hv : v = -1 ∨ ∃ j, j < r ∧ v = nI j) : s_S (wk_up L 15 0 0 (8 * r + 6) v) (wk_up C 6 0 r 3 v) n w t T := by
  obtain ⟨-, hR, -⟩ := id h
  obtain ⟨⟨⟨a0, a1, a2, a3, a4, a5, a6, a7⟩, ⟨b0, b3, b4, b5, b6, b7⟩, ⟨e0, e1, e2, e3, e4⟩, c1, c2, c3⟩, o1, o2, -, o4⟩ := hR r hr
  refine s_S_rm h hr (fun s => u_n (by omega)) (fun s => u_n (by omega)) (fun s hs => u_n (by omega)) (fun s => u_n (by omega)) (fun s => u_n (by omega)) (fun k i hk => u_r (by omega)) ?_ ?_
  · unfold s_R
    simp (disch := omega) only [u_e, u_n]
    exact ⟨⟨a0, a1, a2, a3, a4, a5, trivial, a7⟩, ⟨b0, b3, b4, b5, b6, b7⟩, ⟨e0, e1, e2, e3, e4⟩, c1, c2, c3⟩
  · unfold s_O
    simp (disch := omega) only [u_e, u_n]
    exact ⟨o1, o2, hv, o4⟩
theorem j_rail {L C : wk_T} {n w t T r : Nat} {v : Int32} (h : s_S L C n w t T) (hr : r < n) (hv : v = -1 ∨ v = L 15 0 0 (8 * r)) : s_S (wk_up L 15 0 0 (8 * r + 7) v) (wk_up C 6 0 r 4 v) n w t T := by
  obtain ⟨-, hR, -⟩ := id h
  obtain ⟨⟨⟨a0, a1, a2, a3, a4, a5, a6, a7⟩, ⟨b0, b3, b4, b5, b6, b7⟩, ⟨e0, e1, e2, e3, e4⟩, c1, c2, c3⟩, ⟨kd, kd1, kd2, -⟩, o2, o3, o4⟩ := hR r hr
  refine s_S_rm h hr (fun s => u_n (by omega)) (fun s => u_n (by omega)) (fun s hs => u_n (by omega)) (fun s => u_n (by omega)) (fun s => u_n (by omega)) (fun k i hk => u_r (by omega)) ?_ ?_
  · unfold s_R
    simp (disch := omega) only [u_e, u_n]
    exact ⟨⟨a0, a1, a2, a3, a4, a5, a6, trivial⟩, ⟨b0, b3, b4, b5, b6, b7⟩, ⟨e0, e1, e2, e3, e4⟩, c1, c2, c3⟩
  · unfold s_O
    simp (disch := omega) only [u_e, u_n]
    exact ⟨⟨kd, kd1, kd2, hv.imp id (fun z => z.trans kd2)⟩, o2, o3, o4⟩
theorem s_law15 {M : wk_T} {n w t T s : Nat} {v : Int32} (h : s_S M M n w t T) (hH : s_Hs M) : s_S M (wk_up M 15 0 0 s v) n w t T ∧ s_Hs (wk_up M 15 0 0 s v) :=
  ⟨s_S_c h (fun _ _ => rfl) (fun k i hk => u_r (by omega)), s_Hs_c hH (u_r (by omega)) (u_r (by omega)) (u_r (by omega))⟩
theorem s_sub1 {a : Nat} (ha : a < 1073741824) : (nI a - 1).toInt = (a : Int) - 1 := s_sub (b := 1) ha (by omega)
theorem s_ti1 : ((-1 : Int32)).toInt = -1 := by decide
/-- what the class answers to need -/
theorem s_need {Mx : wk_T} {n r : Nat} {o : Int32} (g5 : Mx 0 0 0 1 = nI n) (hr : r < n) (hn : n ≤ 8) (ho : o = -1 ∨ ∃ j, j ≤ r ∧ o = nI j) : f_X0_setNeed 0 (nI r) o Mx = if o = nI r then some (-1, Mx) else if Mx 6 0 r 7 = 0 then some (Mx 6 0 r 3 + 1, wk_up Mx 6 0 r 3 o) else some (-2, Mx) := by
  unfold f_X0_setNeed
  rw [s_hasRoom g5 hr hn, s_cl_d, if_neg (show ¬ (1 : Int32) = 0 by decide)]
  have hlo : ¬ o < -1 := by
    rw [s_lt, s_ti1]
    rcases ho with rfl | ⟨j, hj, rfl⟩
    · rw [s_ti1]; omega
    · rw [s_ti (by omega)]; omega
  by_cases q : o = nI r
  · rw [if_pos q]
    have hhi : ¬ o ≤ nI r - 1 := by
      rw [q, s_le, s_sub1 (by omega), s_ti (by omega)]; omega
    rw [show f_X3_outside o (-1) (nI r - 1) Mx = some (1, Mx) by unfold f_X3_outside; rw [if_neg hlo, if_neg hhi], s_cl_d, if_neg (show ¬ (1 : Int32) = 0 by decide)]
  · rw [if_neg q]
    have hhi : o ≤ nI r - 1 := by
      rw [s_le, s_sub1 (by omega)]
      rcases ho with rfl | ⟨j, hj, rfl⟩
      · rw [s_ti1]; omega
      · have : j ≠ r := fun z => q (by rw [z])
        rw [s_ti (by omega)]; omega
    rw [s_in3 hlo hhi, s_cl_d, if_pos rfl]
    simp (disch := omega) only [s_gi, s_gj, s_cl, s_lt_d, s_mu_d]
theorem a_need {M : wk_T} {n w t T a : Nat} (h : s_S M M n w t T) (hH : s_Hs M) (hp : s_P M n) (ha : a < 2147483648) (h0 : 0 < n) : s_ok (f_L_lays (nI a) 1 M) T 680 := by
  obtain ⟨⟨g1, g2, g3, gT, g4, g5, -⟩, hR, -⟩ := id h
  have hr : a % n < n := Nat.mod_lt _ h0
  have e1 : wk_rem (nI a) (nI n) = nI (a % n) := s_rm ha h0 (by omega)
  have e2 : wk_rem (nI a / 8) (nI (a % n + 2)) = nI (a / 8 % (a % n + 2)) := s_dm (d := 8) ha (by omega) (by omega) (by omega) (by omega)
  have hlt : a / 8 % (a % n + 2) < a % n + 2 := Nat.mod_lt _ (by omega)
  unfold f_L_lays
  rw [if_neg (show ¬ (1 : Int32) = 0 by decide), g4, s_gd (show ¬ nI n = 0 by rw [s_e0 (by omega)]; omega), s_lt_d, if_pos rfl, e1, s_a2, s_gd (show ¬ nI (a % n + 2) = 0 by rw [s_e0 (by omega)]; omega), s_lt_d, e2]
  generalize hr2 : a % n = r at hr hlt ⊢
  have ho : ∃ o : Int32, nI (a / 8 % (r + 2)) - 1 = o ∧ (o = -1 ∨ ∃ j, j ≤ r ∧ o = nI j) := by
    rcases Nat.eq_zero_or_pos (a / 8 % (r + 2)) with q | q
    · exact ⟨-1, by rw [q]; rfl, Or.inl rfl⟩
    · obtain ⟨j, hj⟩ : ∃ j, a / 8 % (r + 2) = j + 1 := ⟨a / 8 % (r + 2) - 1, by omega⟩
      exact ⟨nI j, by rw [hj, s_p1], Or.inr ⟨j, by omega, rfl⟩⟩
  obtain ⟨o, ho1, ho2⟩ := ho
  rw [ho1]
  simp (disch := omega) only [s_m8, s_a6, s_gi, s_gj, s_cl, s_lt_d]
  obtain ⟨⟨⟨-, -, -, -, -, -, a6, -⟩, ⟨b0, -⟩, -⟩, -⟩ := hR r hr
  have hge : nI r ≤ o ↔ o = nI r := by
    rw [s_le, s_ti (by omega)]
    rcases ho2 with rfl | ⟨j, hj, rfl⟩
    · rw [s_ti1]
      exact ⟨fun z => by omega, fun z => absurd z.symm (s_nm (by omega))⟩
    · rw [s_ti (by omega), s_eqI (by omega) (by omega)]
      exact ⟨fun z => by omega, fun z => by omega⟩
  have refuse : (o = nI r ∨ ¬ M 16 0 0 (8 * r) = 0) → s_ok (f_L_lays_276 (nI r) o (M 15 0 0 (8 * r + 6)) M) T 680 := by
    intro hq
    obtain ⟨M3, m1_, m2_, m3_, m4_⟩ := j_ref (op := fun M2 => f_X0_setNeed 0 (nI r) o M2) (v := if o = nI r then -1 else -2) h hH (fun Mx hx1 hx2 => by
      show f_X0_setNeed 0 (nI r) o Mx = _
      obtain ⟨⟨-, ⟨bx, -⟩, -⟩, -⟩ := hx1.2.1 r hr
      rw [s_need hx1.1.2.2.2.2.2.1 hr g1 ho2]
      by_cases q : o = nI r
      · rw [if_pos q, if_pos q]
      · rw [if_neg q, if_neg q, if_neg (show ¬ Mx 6 0 r 7 = 0 by rw [← bx]; exact hq.resolve_left q)])
    refine ⟨M3, n, w, t, T, ?_, m2_, m3_, by omega, by omega, s_P_c hp (m4_ 15 (by omega))⟩
    unfold f_L_lays_276 f_L_lays_277
    rw [if_pos rfl]
    unfold f_L_lays_300 f_L_lays_334
    simp (disch := omega) only [s_m8, s_a6, s_gi, s_gj, s_cl, s_mu_d]
    rw [s_self, show f_X3_need (nI r) o M = _ from m1_, s_cl_d]
    by_cases q : o = nI r
    · rw [if_pos q, if_pos q, if_pos rfl]
    · rw [if_neg q, if_neg q, if_pos rfl]; exact if_pos trivial
  by_cases hb : M 16 0 0 (8 * r) = 0
  · rw [if_pos hb]
    by_cases hq : o = nI r
    · rw [if_pos (hge.mpr hq)]
      exact refuse (Or.inl hq)
    · rw [if_neg (fun z => hq (hge.mp z))]
      have hv : o = -1 ∨ ∃ j, j < r ∧ o = nI j := ho2.imp id (fun ⟨j, hj, hj2⟩ => ⟨j, by rcases Nat.lt_or_ge j r with y | y; exact y; exact absurd (by rw [hj2, show j = r by omega]) hq, hj2⟩)
      obtain ⟨hSL, hHL⟩ := s_law15 (s := 8 * r + 6) (v := o) h hH
      obtain ⟨M3, m1_, m2_, m3_, m4_⟩ := j_op (op := fun M2 => f_X0_setNeed 0 (nI r) o M2) (L2 := wk_up M 15 0 0 (8 * r + 6) o) (n' := n) (w' := w) (t' := t) (T' := T) (v := M 15 0 0 (8 * r + 6) + 1) hSL hHL (fun Mx hx1 hx2 => by
        obtain ⟨⟨⟨-, -, -, -, -, -, ax, -⟩, ⟨bx, -⟩, -⟩, -⟩ := hx1.2.1 r hr
        refine ⟨wk_up Mx 6 0 r 3 o, ?_, s_c.up (by omega), j_tie hx1 hr hv⟩
        show f_X0_setNeed 0 (nI r) o Mx = _
        rw [s_need hx1.1.2.2.2.2.2.1 hr g1 ho2, if_neg hq, if_pos (show Mx 6 0 r 7 = 0 by rw [← bx]; exact hb), ax]) (fun _ _ => rfl)
      refine ⟨M3, n, w, t, T, ?_, m2_, m3_, by omega, by omega, fun rl hrl => ?_, hp.2⟩
      · unfold f_L_lays_277
        rw [if_neg (show ¬ (1 : Int32) = 0 by decide)]
        unfold f_L_lays_300 f_L_lays_334
        simp (disch := omega) only [s_m8, s_a6, s_gi, s_gj, s_cl, s_mu_d]
        rw [show f_X3_need (nI r) o (wk_up M 15 0 0 (8 * r + 6) o) = _ from m1_, s_cl_d, if_neg hq, if_neg (show ¬ (1 : Int32) = 0 by decide), if_pos rfl]
      · rw [s_cnt_c (m4_ 15 (by omega))]
        have hsame : ∀ i, s_cnt (wk_up M 15 0 0 (8 * r + 6) o) rl i = s_cnt M rl i := by
          intro i
          induction i with
          | zero => rfl
          | succ i ih => rw [s_cnt, s_cnt, ih, u_n (by omega)]
        rw [hsame]
        exact hp.1 rl hrl
  · rw [if_neg hb]
    exact refuse (Or.inr hb)
/-- how many are plugged into a rail, both ways -/
theorem s_plugged {L C : wk_T} {n w t T : Nat} {rl : Int32} (h : s_S L C n w t T) : f_X0_pluggedInto 0 rl C = some (nI (s_cnt L rl n), C) := by
  obtain ⟨⟨g1, g2, g3, gT, g4, g5, -⟩, hR, -⟩ := id h
  have key : ∀ d i f, n - i = d → i ≤ n → f_X0_pluggedInto_4 0 (f + d + 1) rl (nI (s_cnt L rl i)) (nI i) C = some (nI (s_cnt L rl n), C) := by
    intro d
    induction d with
    | zero =>
      intro i f hd hi
      have hin : i = n := by omega
      subst hin
      rw [f_X0_pluggedInto_4, g5, if_pos (show nI i ≤ nI i from Int32.le_refl _)]
    | succ d ih =>
      intro i f hd hi
      obtain ⟨⟨⟨-, -, -, -, -, -, -, a7⟩, -⟩, -⟩ := hR i (by omega)
      rw [show f + (d + 1) + 1 = (f + d + 1) + 1 by omega, f_X0_pluggedInto_4, g5, if_neg (show ¬ nI n ≤ nI i by rw [s_leI (by omega) (by omega)]; omega)]
      unfold f_X0_pluggedInto_28
      simp (disch := omega) only [s_gi, s_gj, s_cl, s_lt_d, s_a1]
      rw [← a7]
      have hs : s_cnt L rl (i + 1) = s_cnt L rl i + if L 15 0 0 (8 * i + 7) = rl then 1 else 0 := rfl
      by_cases q : L 15 0 0 (8 * i + 7) = rl
      · rw [if_pos q] at hs ⊢
        rw [← hs]
        exact ih (i + 1) f (by omega) (by omega)
      · rw [if_neg q] at hs ⊢
        rw [show s_cnt L rl i = s_cnt L rl (i + 1) from hs.symm]
        exact ih (i + 1) f (by omega) (by omega)
  unfold f_X0_pluggedInto
  have e := key (n - 0) 0 (99 - (n - 0)) rfl (by omega)
  rw [show (99 - (n - 0)) + (n - 0) + 1 = wk_fuel by show _ = 100; omega] at e
  exact e
theorem s_cnt_up {M : wk_T} {rl v : Int32} {r : Nat} : ∀ i, s_cnt (wk_up M 15 0 0 (8 * r + 7) v) rl i + (if r < i ∧ M 15 0 0 (8 * r + 7) = rl then 1 else 0) = s_cnt M rl i + (if r < i ∧ v = rl then 1 else 0) := by
  intro i
  induction i with
  | zero => simp [s_cnt]
  | succ i ih =>
    rw [s_cnt, s_cnt]
    by_cases q : i = r
    · subst q
      rw [u_e rfl rfl rfl rfl]
      rw [if_neg (show ¬ (i < i ∧ M 15 0 0 (8 * i + 7) = rl) from fun z => absurd z.1 (by omega)), if_neg (show ¬ (i < i ∧ v = rl) from fun z => absurd z.1 (by omega))] at ih
      by_cases q1 : M 15 0 0 (8 * i + 7) = rl
      · by_cases q2 : v = rl
        · rw [if_pos q2, if_pos (show i < i + 1 ∧ M 15 0 0 (8 * i + 7) = rl from ⟨by omega, q1⟩), if_pos q1, if_pos (show i < i + 1 ∧ v = rl from ⟨by omega, q2⟩)]
          omega
        · rw [if_neg q2, if_pos (show i < i + 1 ∧ M 15 0 0 (8 * i + 7) = rl from ⟨by omega, q1⟩), if_pos q1, if_neg (show ¬ (i < i + 1 ∧ v = rl) from fun z => q2 z.2)]
          omega
      · by_cases q2 : v = rl
        · rw [if_pos q2, if_neg (show ¬ (i < i + 1 ∧ M 15 0 0 (8 * i + 7) = rl) from fun z => q1 z.2), if_neg q1, if_pos (show i < i + 1 ∧ v = rl from ⟨by omega, q2⟩)]
          omega
        · rw [if_neg q2, if_neg (show ¬ (i < i + 1 ∧ M 15 0 0 (8 * i + 7) = rl) from fun z => q1 z.2), if_neg q1, if_neg (show ¬ (i < i + 1 ∧ v = rl) from fun z => q2 z.2)]
          omega
    · rw [u_n (by omega)]
      have e1 : (r < i + 1 ∧ M 15 0 0 (8 * r + 7) = rl) ↔ (r < i ∧ M 15 0 0 (8 * r + 7) = rl) := ⟨fun z => ⟨by omega, z.2⟩, fun z => ⟨by omega, z.2⟩⟩
      have e2 : (r < i + 1 ∧ v = rl) ↔ (r < i ∧ v = rl) := ⟨fun z => ⟨by omega, z.2⟩, fun z => ⟨by omega, z.2⟩⟩
      simp only [e1, e2]
      omega
/-- what the class answers to plug -/
theorem s_plug {L C : wk_T} {n w t T r kd : Nat} (h : s_S L C n w t T) (hr : r < n) (hkd : kd < 2) : f_X0_plugIn 0 (nI r) (nI kd) C = if L 15 0 0 (8 * r + 7) = -1 then (if L 15 0 0 (8 * r) = nI kd then (if s_cnt L (nI kd) n < 4 then wk_cl (f_X0_pluggedInto 0 (nI kd) (wk_up C 6 0 r 4 (nI kd))) (fun r14 M15 => some (r14, M15)) else some (-3, C)) else some (-2, C)) else some (-2, C) := by
  obtain ⟨⟨g1, g2, g3, gT, g4, g5, -⟩, hR, -⟩ := id h
  obtain ⟨⟨⟨a0, -, -, -, -, -, -, a7⟩, -⟩, -⟩ := hR r hr
  unfold f_X0_plugIn
  rw [s_hasRoom g5 hr g1, s_cl_d, if_neg (show ¬ (1 : Int32) = 0 by decide), show f_X3_outside (nI kd) 0 1 C = some (0, C) from s_inN (lo := 0) (hi := 1) (by omega) (by omega) (by omega), s_cl_d, if_pos rfl]
  simp (disch := omega) only [s_gi, s_gj, s_cl, s_mu_d]
  rw [← a7, ← a0, s_plugged h, s_cl_d]
  have hc8 : s_cnt L (nI kd) n ≤ n := s_cnt_le n
  by_cases q : s_cnt L (nI kd) n < 4
  · rw [if_pos (show nI (s_cnt L (nI kd) n) < 4 from (nI_ltI (b := 4) (by omega) (by omega)).mpr q), if_pos q]
  · rw [if_neg (show ¬ nI (s_cnt L (nI kd) n) < 4 from fun z => q ((nI_ltI (b := 4) (by omega) (by omega)).mp z)), if_neg q]
theorem s_cntL {M : wk_T} {n r : Nat} {rl : Int32} (hn : n ≤ 8) (g4 : M 14 0 0 0 = nI n) : ∀ d i f, n - i = d → i ≤ n → f_L_lays_384 (f + d + 1) (nI r) rl (nI (s_cnt M rl i)) (nI i) M = f_L_lays_384 1 (nI r) rl (nI (s_cnt M rl n)) (nI n) M := by
  intro d
  induction d with
  | zero =>
    intro i f hd hi
    have hin : i = n := by omega
    subst hin
    rw [f_L_lays_384, f_L_lays_384, g4, if_pos (show nI i ≤ nI i from Int32.le_refl _), if_pos (show nI i ≤ nI i from Int32.le_refl _)]
  | succ d ih =>
    intro i f hd hi
    rw [show f + (d + 1) + 1 = (f + d + 1) + 1 by omega, f_L_lays_384, g4, if_neg (show ¬ nI n ≤ nI i by rw [s_leI (by omega) (by omega)]; omega)]
    unfold f_L_lays_414
    simp (disch := omega) only [s_m8, s_a7, s_gi, s_gj, s_cl, s_lt_d, s_a1]
    have hs : s_cnt M rl (i + 1) = s_cnt M rl i + if M 15 0 0 (8 * i + 7) = rl then 1 else 0 := rfl
    by_cases q : M 15 0 0 (8 * i + 7) = rl
    · rw [if_pos q] at hs ⊢
      rw [← hs]
      exact ih (i + 1) f (by omega) (by omega)
    · rw [if_neg q] at hs ⊢
      rw [show s_cnt M rl i = s_cnt M rl (i + 1) from hs.symm, Int32.add_zero]
      exact ih (i + 1) f (by omega) (by omega)
theorem a_plug0 {M : wk_T} {n w t T r kd : Nat} (h : s_S M M n w t T) (hH : s_Hs M) (hp : s_P M n) (hr : r < n) (hkd : kd < 2) : s_ok (f_L_lays_376 (nI r) (nI kd) M) T 680 := by
  obtain ⟨⟨g1, g2, g3, gT, g4, g5, -⟩, hR, -⟩ := id h
  have hc4 : s_cnt M (nI kd) n ≤ 4 := hp.1 _ (by rcases (show kd = 0 ∨ kd = 1 by omega) with rfl | rfl; exact Or.inl rfl; exact Or.inr rfl)
  have e := s_cntL (r := r) (rl := nI kd) g1 g4 (n - 0) 0 (99 - (n - 0)) rfl (by omega)
  rw [show (99 - (n - 0)) + (n - 0) + 1 = wk_fuel by show _ = 100; omega] at e
  unfold f_L_lays_376
  rw [show f_L_lays_384 wk_fuel (nI r) (nI kd) 0 0 M = _ from e, f_L_lays_384, g4, if_pos (show nI n ≤ nI n from Int32.le_refl _)]
  simp (disch := omega) only [s_m8, s_a7, s_gi, s_gj, s_cl, s_mu_d]
  obtain ⟨-, ⟨k0, k1, k2, k3⟩, -⟩ := hR r hr
  have refuse : (¬ (M 15 0 0 (8 * r + 7) = -1 ∧ M 15 0 0 (8 * r) = nI kd ∧ s_cnt M (nI kd) n < 4)) → s_ok (f_L_lays_454 (nI r) (nI kd) M) T 680 := by
    intro hq
    obtain ⟨M3, m1_, m2_, m3_, m4_⟩ := j_ref (op := fun M2 => f_X0_plugIn 0 (nI r) (nI kd) M2) (v := if M 15 0 0 (8 * r + 7) = -1 ∧ M 15 0 0 (8 * r) = nI kd then -3 else -2) h hH (fun Mx hx1 hx2 => by
      show f_X0_plugIn 0 (nI r) (nI kd) Mx = _
      rw [s_plug hx1 hr hkd]
      by_cases q1 : M 15 0 0 (8 * r + 7) = -1
      · rw [if_pos q1]
        by_cases q2 : M 15 0 0 (8 * r) = nI kd
        · rw [if_pos q2, if_neg (show ¬ s_cnt M (nI kd) n < 4 from fun z => hq ⟨q1, q2, z⟩), if_pos ⟨q1, q2⟩]
        · rw [if_neg q2, if_neg (show ¬ (M 15 0 0 (8 * r + 7) = -1 ∧ M 15 0 0 (8 * r) = nI kd) from fun z => q2 z.2)]
      · rw [if_neg q1, if_neg (show ¬ (M 15 0 0 (8 * r + 7) = -1 ∧ M 15 0 0 (8 * r) = nI kd) from fun z => q1 z.1)])
    refine ⟨M3, n, w, t, T, ?_, m2_, m3_, by omega, by omega, s_P_c hp (m4_ 15 (by omega))⟩
    unfold f_L_lays_454
    rw [show f_X3_plug (nI r) (nI kd) M = _ from m1_, s_cl_d, m4_ 15 (by omega)]
    unfold f_L_lays_487 f_L_lays_494
    simp (disch := omega) only [s_m8, s_a7, s_gi, s_gj, s_cl]
    rcases k3 with q1 | q1
    · rw [if_neg (show ¬ 0 ≤ M 15 0 0 (8 * r + 7) by rw [q1]; decide)]
      by_cases q2 : M 15 0 0 (8 * r) = nI kd
      · rw [if_pos q2.symm, if_pos (show M 15 0 0 (8 * r + 7) = -1 ∧ M 15 0 0 (8 * r) = nI kd from ⟨q1, q2⟩), if_pos rfl]
      · rw [if_neg (fun z => q2 z.symm), if_neg (show ¬ (M 15 0 0 (8 * r + 7) = -1 ∧ M 15 0 0 (8 * r) = nI kd) from fun z => q2 z.2), if_pos rfl]
    · rw [if_pos (show 0 ≤ M 15 0 0 (8 * r + 7) by rw [q1]; exact s_pos (by omega)), if_neg (show ¬ (M 15 0 0 (8 * r + 7) = -1 ∧ M 15 0 0 (8 * r) = nI kd) from fun z => by rw [q1] at z; exact s_nm (by omega) z.1), if_pos rfl]
  rcases k3 with q1 | q1
  · rw [if_neg (show ¬ 0 ≤ M 15 0 0 (8 * r + 7) by rw [q1]; decide)]
    by_cases q2 : M 15 0 0 (8 * r) = nI kd
    · rw [if_pos q2.symm]
      by_cases q3 : s_cnt M (nI kd) n = 4
      · rw [if_pos (show nI (s_cnt M (nI kd) n) = 4 by rw [q3]; rfl)]
        exact refuse (fun z => absurd z.2.2 (by omega))
      · rw [if_neg (show ¬ nI (s_cnt M (nI kd) n) = 4 from fun z => q3 ((nI_eq (b := 4) (by omega) (by omega)).mp z))]
        obtain ⟨hSL, hHL⟩ := s_law15 (s := 8 * r + 7) (v := nI kd) h hH
        have hcu := s_cnt_up (M := M) (rl := nI kd) (v := nI kd) (r := r) n
        rw [if_neg (show ¬ (r < n ∧ M 15 0 0 (8 * r + 7) = nI kd) from fun z => by rw [q1] at z; exact s_nm (by omega) z.2.symm), if_pos (show r < n ∧ nI kd = nI kd from ⟨hr, rfl⟩), Nat.add_zero] at hcu
        obtain ⟨M3, m1_, m2_, m3_, m4_⟩ := j_op (op := fun M2 => f_X0_plugIn 0 (nI r) (nI kd) M2) (L2 := wk_up M 15 0 0 (8 * r + 7) (nI kd)) (n' := n) (w' := w) (t' := t) (T' := T) (v := nI (s_cnt M (nI kd) n + 1)) hSL hHL (fun Mx hx1 hx2 => by
          refine ⟨wk_up Mx 6 0 r 4 (nI kd), ?_, s_c.up (by omega), j_rail hx1 hr (Or.inr q2.symm)⟩
          show f_X0_plugIn 0 (nI r) (nI kd) Mx = _
          rw [s_plug hx1 hr hkd, if_pos q1, if_pos q2, if_pos (show s_cnt M (nI kd) n < 4 by omega), s_plugged (j_rail hx1 hr (Or.inr q2.symm)), s_cl_d, hcu]) (fun _ _ => rfl)
        refine ⟨M3, n, w, t, T, ?_, m2_, m3_, by omega, by omega, fun rl hrl => ?_, hp.2⟩
        · rw [show f_X3_plug (nI r) (nI kd) (wk_up M 15 0 0 (8 * r + 7) (nI kd)) = _ from m1_, s_cl_d, s_a1, if_pos rfl]
        · rw [s_cnt_c (m4_ 15 (by omega))]
          by_cases q4 : nI kd = rl
          · rw [← q4, hcu]
            omega
          · have hcv := s_cnt_up (M := M) (rl := rl) (v := nI kd) (r := r) n
            rw [if_neg (show ¬ (r < n ∧ nI kd = rl) from fun z => q4 z.2)] at hcv
            have := hp.1 rl hrl
            omega
    · rw [if_neg (fun z => q2 z.symm)]
      exact refuse (fun z => q2 z.2.1)
  · rw [if_pos (show 0 ≤ M 15 0 0 (8 * r + 7) by rw [q1]; exact s_pos (by omega))]
    exact refuse (fun z => by rw [q1] at z; exact s_nm (by omega) z.1)
theorem a_plug {M : wk_T} {n w t T a : Nat} (h : s_S M M n w t T) (hH : s_Hs M) (hp : s_P M n) (ha : a < 2147483648) (h0 : 0 < n) : s_ok (f_L_lays (nI a) 2 M) T 680 := by
  obtain ⟨⟨g1, g2, g3, gT, g4, g5, -⟩, hR, -⟩ := id h
  have hr : a % n < n := Nat.mod_lt _ h0
  have e1 : wk_rem (nI a) (nI n) = nI (a % n) := s_rm ha h0 (by omega)
  unfold f_L_lays
  rw [if_neg (show ¬ (2 : Int32) = 0 by decide), g4, s_gd (show ¬ nI n = 0 by rw [s_e0 (by omega)]; omega), s_lt_d, if_neg (show ¬ (2 : Int32) = 1 by decide), if_pos rfl, e1]
  generalize hr2 : a % n = r at hr ⊢
  obtain ⟨-, ⟨kd, kd1, kd2, -⟩, -⟩ := hR r hr
  simp (disch := omega) only [s_m8, s_gi, s_gj, s_cl]
  rw [kd2]
  by_cases q : wk_rem (nI a) 17 = 0
  · rw [if_pos q]
    rw [show (1 : Int32) - nI kd = nI (1 - kd) from pk_sub (a := 1) (by omega)]
    exact a_plug0 h hH hp hr (by omega)
  · rw [if_neg q]
    exact a_plug0 h hH hp hr kd1
