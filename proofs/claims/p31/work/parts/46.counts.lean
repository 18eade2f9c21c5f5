/-! isSo answers 1 -/
theorem s_S_19 {M M' : wk_T} {n w t T : Nat} (h : s_S M M n w t T) (hM : ∀ k, k ≠ 19 → M' k = M k) : s_S M' M' n w t T := by
  unfold s_S s_G at h ⊢
  unfold s_R s_O s_Z s_U at h ⊢
  simp only [hM 14 (by omega), hM 15 (by omega), hM 16 (by omega), hM 17 (by omega), hM 18 (by omega), hM 0 (by omega), hM 2 (by omega), hM 3 (by omega), hM 4 (by omega), hM 5 (by omega), hM 6 (by omega), hM 7 (by omega), hM 8 (by omega)]
  exact h
theorem s_Hs_19 {M M' : wk_T} (h : s_Hs M) (hM : ∀ k, k ≠ 19 → M' k = M k) : s_Hs M' := s_Hs_c h (by rw [hM 9 (by omega)]) (by rw [hM 10 (by omega)]) (by rw [hM 11 (by omega)])
def s_st (M : wk_T) (x : Int32) : Nat → Nat
  | 0 => 0
  | i + 1 => s_st M x i + if M 16 0 0 (8 * i) = x then 1 else 0
def s_sum (f : Nat → Int32) : Nat → Int32
  | 0 => 0
  | i + 1 => s_sum f i + f i
def s_pd (M : wk_T) : Nat → Int32 := s_sum (fun i => M 17 0 0 (4 * i) + M 17 0 0 (4 * i + 1) + M 17 0 0 (4 * i + 2) + M 17 0 0 (4 * i + 3))
def s_bg (M : wk_T) : Nat → Int32 := s_sum (fun i => M 16 0 0 (8 * i + 5))
def s_lte (M : wk_T) : Nat → Int32 := s_sum (fun i => M 16 0 0 (8 * i + 6))
theorem s_roomsIn {L C : wk_T} {n w t T : Nat} {x : Int32} (h : s_S L C n w t T) : f_X0_roomsIn 0 x C = some (nI (s_st L x n), C) := by
  obtain ⟨⟨g1, g2, g3, gT, g4, g5, -⟩, hR, -⟩ := id h
  have key : ∀ d i f, n - i = d → i ≤ n → f_X0_roomsIn_4 0 (f + d + 1) x (nI (s_st L x i)) (nI i) C = some (nI (s_st L x n), C) := by
    intro d
    induction d with
    | zero =>
      intro i f hd hi
      have hin : i = n := by omega
      subst hin
      rw [f_X0_roomsIn_4, g5, if_pos (show nI i ≤ nI i from Int32.le_refl _)]
    | succ d ih =>
      intro i f hd hi
      obtain ⟨⟨-, ⟨b0, -⟩, -⟩, -⟩ := hR i (by omega)
      rw [show f + (d + 1) + 1 = (f + d + 1) + 1 by omega, f_X0_roomsIn_4, g5, if_neg (show ¬ nI n ≤ nI i by rw [s_leI (by omega) (by omega)]; omega)]
      unfold f_X0_roomsIn_28
      simp (disch := omega) only [s_gi, s_gj, s_cl, s_lt_d, s_a1]
      rw [← b0]
      have e := ih (i + 1) f (by omega) (by omega)
      have hs : s_st L x (i + 1) = s_st L x i + if L 16 0 0 (8 * i) = x then 1 else 0 := rfl
      rw [hs] at e
      by_cases q : L 16 0 0 (8 * i) = x
      · rw [if_pos q] at e ⊢
        exact e
      · rw [if_neg q] at e ⊢
        exact e
  unfold f_X0_roomsIn
  have e := key (n - 0) 0 (99 - (n - 0)) rfl (by omega)
  rw [show (99 - (n - 0)) + (n - 0) + 1 = wk_fuel by show _ = 100; omega] at e
  exact e
theorem s_paid {L C : wk_T} {n w t T : Nat} (h : s_S L C n w t T) : f_X0_paidInAll 0 C = some (s_pd L n, C) := by
  obtain ⟨⟨g1, g2, g3, gT, g4, g5, -⟩, hR, -⟩ := id h
  have key : ∀ d i f, n - i = d → i ≤ n → f_X0_paidInAll_4 0 (f + d + 1) (s_pd L i) (nI i) C = some (s_pd L n, C) := by
    intro d
    induction d with
    | zero =>
      intro i f hd hi
      have hin : i = n := by omega
      subst hin
      rw [f_X0_paidInAll_4, g5, if_pos (show nI i ≤ nI i from Int32.le_refl _)]
    | succ d ih =>
      intro i f hd hi
      obtain ⟨⟨-, -, ⟨e0, e1, e2, e3, e4⟩, -⟩, -⟩ := hR i (by omega)
      rw [show f + (d + 1) + 1 = (f + d + 1) + 1 by omega, f_X0_paidInAll_4, g5, if_neg (show ¬ nI n ≤ nI i by rw [s_leI (by omega) (by omega)]; omega)]
      unfold f_X2_paidInAll
      simp (disch := omega) only [s_gi, s_gj, s_cl, s_lt_d, s_a1, s_cl_d]
      rw [← e0, ← e1, ← e2, ← e3]
      exact ih (i + 1) f (by omega) (by omega)
  unfold f_X0_paidInAll
  have e := key (n - 0) 0 (99 - (n - 0)) rfl (by omega)
  rw [show (99 - (n - 0)) + (n - 0) + 1 = wk_fuel by show _ = 100; omega] at e
  exact e
theorem s_lates {L C : wk_T} {n w t T : Nat} (h : s_S L C n w t T) : f_X0_lateInAll 0 C = some (s_lte L n, C) := by
  obtain ⟨⟨g1, g2, g3, gT, g4, g5, -⟩, hR, -⟩ := id h
  have key : ∀ d i f, n - i = d → i ≤ n → f_X0_lateInAll_4 0 (f + d + 1) (s_lte L i) (nI i) C = some (s_lte L n, C) := by
    intro d
    induction d with
    | zero =>
      intro i f hd hi
      have hin : i = n := by omega
      subst hin
      rw [f_X0_lateInAll_4, g5, if_pos (show nI i ≤ nI i from Int32.le_refl _)]
    | succ d ih =>
      intro i f hd hi
      obtain ⟨⟨-, ⟨b0, b3, b4, b5, b6, b7⟩, -⟩, -⟩ := hR i (by omega)
      rw [show f + (d + 1) + 1 = (f + d + 1) + 1 by omega, f_X0_lateInAll_4, g5, if_neg (show ¬ nI n ≤ nI i by rw [s_leI (by omega) (by omega)]; omega)]
      simp (disch := omega) only [s_gi, s_gj, s_cl, s_lt_d, s_a1, s_cl_d]
      rw [← b6]
      exact ih (i + 1) f (by omega) (by omega)
  unfold f_X0_lateInAll
  have e := key (n - 0) 0 (99 - (n - 0)) rfl (by omega)
  rw [show (99 - (n - 0)) + (n - 0) + 1 = wk_fuel by show _ = 100; omega] at e
  exact e
theorem s_begunL {L C : wk_T} {n w t T : Nat} (h : s_S L C n w t T) : f_X0_begunInAll 0 C = some (s_bg L n, C) := by
  obtain ⟨⟨g1, g2, g3, gT, g4, g5, -⟩, hR, -⟩ := id h
  rw [s_begun g1 g5]
  have key : ∀ i, i ≤ n → s_B C i = s_bg L i := by
    intro i
    induction i with
    | zero => intro _; rfl
    | succ i ih =>
      intro hi
      obtain ⟨⟨-, ⟨b0, b3, b4, b5, b6, b7⟩, -⟩, -⟩ := hR i (by omega)
      show s_B C i + C 6 0 i 10 = s_bg L i + L 16 0 0 (8 * i + 5)
      rw [ih (by omega), b5]
  rw [key n (Nat.le_refl _)]
theorem s_cnt_mono {M : wk_T} {rl : Int32} {i : Nat} : ∀ j, i ≤ j → s_cnt M rl i ≤ s_cnt M rl j := by
  intro j hj
  induction j with
  | zero => rw [show i = 0 by omega]; exact Nat.le_refl _
  | succ j ih =>
    by_cases q : i = j + 1
    · rw [q]; exact Nat.le_refl _
    · have := ih (by omega)
      rw [s_cnt]
      omega
/-- the c-th room on a rail -/
theorem s_onRail {L C : wk_T} {n w t T i : Nat} {rl : Int32} (h : s_S L C n w t T) (hi : i ≤ n) : ∀ d j f, i - j = d → j ≤ i → f_X0_roomOnRail_5 0 (f + d + 1) rl (nI (s_cnt L rl i)) (nI (s_cnt L rl j)) (nI j) C = f_X0_roomOnRail_5 0 (f + 1) rl (nI (s_cnt L rl i)) (nI (s_cnt L rl i)) (nI i) C := by
  obtain ⟨⟨g1, g2, g3, gT, g4, g5, -⟩, hR, -⟩ := id h
  intro d
  induction d with
  | zero =>
    intro j f hd hj
    have hij : j = i := by omega
    subst hij
    rfl
  | succ d ih =>
    intro j f hd hj
    obtain ⟨⟨⟨-, -, -, -, -, -, -, a7⟩, -⟩, -⟩ := hR j (by omega)
    have hc1 : s_cnt L rl i ≤ i := s_cnt_le i
    have hc2 : s_cnt L rl j ≤ j := s_cnt_le j
    rw [show f + (d + 1) + 1 = (f + d + 1) + 1 by omega, f_X0_roomOnRail_5, g5, if_neg (show ¬ nI n ≤ nI j by rw [s_leI (by omega) (by omega)]; omega)]
    unfold f_X0_roomOnRail_39
    simp (disch := omega) only [s_gi, s_gj, s_cl, s_lt_d, s_a1]
    rw [← a7]
    have e := ih (j + 1) f (by omega) (by omega)
    have hs : s_cnt L rl (j + 1) = s_cnt L rl j + if L 15 0 0 (8 * j + 7) = rl then 1 else 0 := rfl
    have hm := s_cnt_mono (M := L) (rl := rl) (i := j + 1) i (by omega)
    rw [hs] at e hm
    by_cases q : L 15 0 0 (8 * j + 7) = rl
    · rw [if_pos q] at e hm
      rw [if_pos q, if_neg (show ¬ nI (s_cnt L rl j) = nI (s_cnt L rl i) by rw [s_eqI (by omega) (by omega)]; omega)]
      exact e
    · rw [if_neg q] at e
      rw [if_neg q]
      exact e
theorem q_at {L C : wk_T} {n w t T i kd : Nat} (h : s_S L C n w t T) (hkd : kd < 2) (hi : i ≤ n) (hq : i = n ∨ L 15 0 0 (8 * i + 7) = nI kd) : f_X3_pluggedAt (nI kd) (nI (s_cnt L (nI kd) i)) C = some (if i = n then -4 else nI i, C) := by
  obtain ⟨⟨g1, g2, g3, gT, g4, g5, -⟩, hR, -⟩ := id h
  have hc1 : s_cnt L (nI kd) i ≤ i := s_cnt_le i
  unfold f_X3_pluggedAt
  rw [show f_X3_outside (nI kd) 0 1 C = some (0, C) from s_inN (lo := 0) (hi := 1) (by omega) (by omega) (by omega), s_cl_d, if_pos rfl, if_pos (s_pos (by omega)), s_clid]
  unfold f_X0_roomOnRail
  have e := s_onRail (rl := nI kd) h hi (i - 0) 0 (99 - (i - 0)) rfl (by omega)
  rw [show (99 - (i - 0)) + (i - 0) + 1 = wk_fuel by show _ = 100; omega] at e
  rw [show f_X0_roomOnRail_5 0 wk_fuel (nI kd) (nI (s_cnt L (nI kd) i)) 0 0 C = _ from e, f_X0_roomOnRail_5, g5]
  by_cases q : i = n
  · rw [if_pos (show nI n ≤ nI i by rw [q]; exact Int32.le_refl _), if_pos q]
  · have hq2 := hq.resolve_left q
    obtain ⟨⟨⟨-, -, -, -, -, -, -, a7⟩, -⟩, -⟩ := hR i (by omega)
    rw [if_neg (show ¬ nI n ≤ nI i by rw [s_leI (by omega) (by omega)]; omega), if_neg q]
    simp (disch := omega) only [s_gi, s_gj, s_cl, s_lt_d, s_a1]
    rw [← a7, if_pos hq2, if_pos trivial]
theorem q_atN {C : wk_T} {kd : Nat} (hkd : kd < 2) : f_X3_pluggedAt (nI kd) (-1) C = some (-1, C) := by
  unfold f_X3_pluggedAt
  rw [show f_X3_outside (nI kd) 0 1 C = some (0, C) from s_inN (lo := 0) (hi := 1) (by omega) (by omega) (by omega), s_cl_d, if_pos rfl, if_neg (show ¬ (0 : Int32) ≤ -1 by decide)]
theorem q_useOf {L C : wk_T} {n w t T k : Nat} (h : s_S L C n w t T) (hk : k < w) : f_X3_useOf (nI k) 0 C = some (L 18 0 0 (3 * k), C) ∧ f_X3_useOf (nI k) 1 C = some (L 18 0 0 (3 * k + 1), C) ∧ f_X3_useOf (nI k) 2 C = some (L 18 0 0 (3 * k + 2), C) ∧ (∀ x, f_X0_firstUseOf 0 (L 18 0 0 (3 * k)) C = some (x, C) → f_X3_useOf (nI k) 3 C = some (if x = nI k then 1 else 0, C)) ∧ f_X3_useOf (nI k) 4 C = some (-1, C) := by
  obtain ⟨⟨g1, g2, g3, gT, g4, g5, g6, g7, -⟩, -, -, hU⟩ := id h
  obtain ⟨u1, u2, u3, -⟩ := hU k hk
  have o : ∀ j, j ≤ 3 → f_X3_outside (nI j) 0 3 C = some (0, C) := fun j hj => s_inN (lo := 0) (hi := 3) (by omega) (by omega) (by omega)
  refine ⟨?_, ?_, ?_, fun x hx => ?_, ?_⟩
  · unfold f_X3_useOf
    rw [s_hasUse g7 hk g2, s_cl_d, if_neg (show ¬ (1 : Int32) = 0 by decide), show f_X3_outside 0 0 3 C = some (0, C) from o 0 (by omega), s_cl_d, if_pos rfl, if_pos rfl]
    simp (disch := omega) only [s_gi, s_gj, s_cl]
    rw [u1]
  · unfold f_X3_useOf
    rw [s_hasUse g7 hk g2, s_cl_d, if_neg (show ¬ (1 : Int32) = 0 by decide), show f_X3_outside 1 0 3 C = some (0, C) from o 1 (by omega), s_cl_d, if_pos rfl, if_neg (show ¬ (1 : Int32) = 0 by decide), if_pos rfl]
    simp (disch := omega) only [s_gi, s_gj, s_cl]
    rw [u2]
  · unfold f_X3_useOf
    rw [s_hasUse g7 hk g2, s_cl_d, if_neg (show ¬ (1 : Int32) = 0 by decide), show f_X3_outside 2 0 3 C = some (0, C) from o 2 (by omega), s_cl_d, if_pos rfl, if_neg (show ¬ (2 : Int32) = 0 by decide), if_neg (show ¬ (2 : Int32) = 1 by decide), if_pos rfl]
    simp (disch := omega) only [s_gi, s_gj, s_cl]
    rw [u3]
  · unfold f_X3_useOf
    rw [s_hasUse g7 hk g2, s_cl_d, if_neg (show ¬ (1 : Int32) = 0 by decide), show f_X3_outside 3 0 3 C = some (0, C) from o 3 (by omega), s_cl_d, if_pos rfl, if_neg (show ¬ (3 : Int32) = 0 by decide), if_neg (show ¬ (3 : Int32) = 1 by decide), if_neg (show ¬ (3 : Int32) = 2 by decide)]
    simp (disch := omega) only [s_gi, s_gj, s_cl]
    rw [← u1, hx, s_cl_d]
    by_cases q : x = nI k
    · rw [if_pos q, if_pos q]
    · rw [if_neg q, if_neg q]
  · unfold f_X3_useOf
    have e : f_X3_outside 4 0 3 C = some (1, C) := by
      unfold f_X3_outside
      rw [if_neg (show ¬ (4 : Int32) < 0 by decide), if_neg (show ¬ (4 : Int32) ≤ 3 by decide)]
    rw [s_hasUse g7 hk g2, s_cl_d, if_neg (show ¬ (1 : Int32) = 0 by decide), e, s_cl_d, if_neg (show ¬ (1 : Int32) = 0 by decide)]
theorem q_useN {L C : wk_T} {n w t T : Nat} (h : s_S L C n w t T) : f_X3_useOf (nI w) 0 C = some (-1, C) := by
  obtain ⟨⟨g1, g2, g3, gT, g4, g5, g6, g7, -⟩, -⟩ := id h
  unfold f_X3_useOf f_X0_hasUse
  rw [if_neg (show ¬ nI w < 0 from s_neg (by omega)), g7, if_pos (show nI w ≤ nI w from Int32.le_refl _), s_cl_d, if_pos rfl]
theorem q_count {L C : wk_T} {n w t T : Nat} (h : s_S L C n w t T) (hH : s_Hs C) :
    f_X3_count 0 C = some (L 14 0 0 0, C) ∧ f_X3_count 1 C = some (L 14 0 0 1, C) ∧ f_X3_count 2 C = some (L 14 0 0 2, C) ∧ f_X3_count 3 C = some (nI (s_st L (nI 0) n), C) ∧ f_X3_count 4 C = some (nI (s_st L (nI 1) n), C) ∧ f_X3_count 5 C = some (nI (s_st L (nI 2) n), C) ∧ f_X3_count 6 C = some (nI (s_st L (nI 3) n), C) ∧
    f_X3_count 7 C = some (s_pd L n, C) ∧ f_X3_count 8 C = some (s_bg L n, C) ∧ f_X3_count 9 C = some (s_lte L n, C) ∧ f_X3_count 11 C = some (0, C) ∧ f_X3_count 20 C = some (L 14 0 0 3, C) ∧ f_X3_count 21 C = some (L 14 0 0 4, C) := by
  obtain ⟨⟨g1, g2, g3, gT, g4, g5, g6, g7, g8, g9, g10, g11⟩, -⟩ := id h
  have c0 : ∀ k, k ≤ 9 → f_X3_count (nI k) C = f_X0_tell 0 (nI k) C := by
    intro k hk
    unfold f_X3_count
    rw [if_neg (show ¬ nI k = 10 from fun z => absurd ((nI_eq (b := 10) (by omega) (by omega)).mp z) (by omega)), if_neg (show ¬ nI k = 11 from fun z => absurd ((nI_eq (b := 11) (by omega) (by omega)).mp z) (by omega)), if_neg (show ¬ nI k = 20 from fun z => absurd ((nI_eq (b := 20) (by omega) (by omega)).mp z) (by omega)), if_neg (show ¬ nI k = 21 from fun z => absurd ((nI_eq (b := 21) (by omega) (by omega)).mp z) (by omega)), show f_X3_outside (nI k) 0 9 C = some (0, C) from s_inN (lo := 0) (hi := 9) (by omega) (by omega) (by omega), s_cl_d, if_pos rfl]
    exact s_clid _
  refine ⟨?_, ?_, ?_, ?_, ?_, ?_, ?_, ?_, ?_, ?_, ?_, ?_, ?_⟩
  · refine (c0 0 (by omega)).trans ?_
    unfold f_X0_tell
    rw [if_pos (show nI 0 = 0 from rfl), g4, g5]
  · refine (c0 1 (by omega)).trans ?_
    unfold f_X0_tell
    rw [if_neg (show ¬ nI 1 = 0 by decide), if_pos (show nI 1 = 1 from rfl), g6, g7]
  · refine (c0 2 (by omega)).trans ?_
    unfold f_X0_tell
    rw [if_neg (show ¬ nI 2 = 0 by decide), if_neg (show ¬ nI 2 = 1 by decide), if_pos (show nI 2 = 2 from rfl), g8, g9]
  · refine (c0 3 (by omega)).trans ?_
    unfold f_X0_tell
    rw [if_neg (show ¬ nI 3 = 0 by decide), if_neg (show ¬ nI 3 = 1 by decide), if_neg (show ¬ nI 3 = 2 by decide), if_pos (show nI 3 = 3 from rfl), s_clid]
    exact s_roomsIn h
  · refine (c0 4 (by omega)).trans ?_
    unfold f_X0_tell
    rw [if_neg (show ¬ nI 4 = 0 by decide), if_neg (show ¬ nI 4 = 1 by decide), if_neg (show ¬ nI 4 = 2 by decide), if_neg (show ¬ nI 4 = 3 by decide), if_pos (show nI 4 = 4 from rfl), s_clid]
    exact s_roomsIn h
  · refine (c0 5 (by omega)).trans ?_
    unfold f_X0_tell
    rw [if_neg (show ¬ nI 5 = 0 by decide), if_neg (show ¬ nI 5 = 1 by decide), if_neg (show ¬ nI 5 = 2 by decide), if_neg (show ¬ nI 5 = 3 by decide), if_neg (show ¬ nI 5 = 4 by decide), if_pos (show nI 5 = 5 from rfl), s_clid]
    exact s_roomsIn h
  · refine (c0 6 (by omega)).trans ?_
    unfold f_X0_tell
    rw [if_neg (show ¬ nI 6 = 0 by decide), if_neg (show ¬ nI 6 = 1 by decide), if_neg (show ¬ nI 6 = 2 by decide), if_neg (show ¬ nI 6 = 3 by decide), if_neg (show ¬ nI 6 = 4 by decide), if_neg (show ¬ nI 6 = 5 by decide), if_pos (show nI 6 = 6 from rfl), s_clid]
    exact s_roomsIn h
  · refine (c0 7 (by omega)).trans ?_
    unfold f_X0_tell
    rw [if_neg (show ¬ nI 7 = 0 by decide), if_neg (show ¬ nI 7 = 1 by decide), if_neg (show ¬ nI 7 = 2 by decide), if_neg (show ¬ nI 7 = 3 by decide), if_neg (show ¬ nI 7 = 4 by decide), if_neg (show ¬ nI 7 = 5 by decide), if_neg (show ¬ nI 7 = 6 by decide), if_pos (show nI 7 = 7 from rfl), s_clid]
    exact s_paid h
  · refine (c0 8 (by omega)).trans ?_
    unfold f_X0_tell
    rw [if_neg (show ¬ nI 8 = 0 by decide), if_neg (show ¬ nI 8 = 1 by decide), if_neg (show ¬ nI 8 = 2 by decide), if_neg (show ¬ nI 8 = 3 by decide), if_neg (show ¬ nI 8 = 4 by decide), if_neg (show ¬ nI 8 = 5 by decide), if_neg (show ¬ nI 8 = 6 by decide), if_neg (show ¬ nI 8 = 7 by decide), if_pos (show nI 8 = 8 from rfl), s_clid]
    exact s_begunL h
  · refine (c0 9 (by omega)).trans ?_
    unfold f_X0_tell
    rw [if_neg (show ¬ nI 9 = 0 by decide), if_neg (show ¬ nI 9 = 1 by decide), if_neg (show ¬ nI 9 = 2 by decide), if_neg (show ¬ nI 9 = 3 by decide), if_neg (show ¬ nI 9 = 4 by decide), if_neg (show ¬ nI 9 = 5 by decide), if_neg (show ¬ nI 9 = 6 by decide), if_neg (show ¬ nI 9 = 7 by decide), if_neg (show ¬ nI 9 = 8 by decide), s_clid]
    exact s_lates h
  · unfold f_X3_count
    rw [if_neg (show ¬ (11 : Int32) = 10 by decide), if_pos rfl, hH.2.2]
  · unfold f_X3_count
    rw [if_neg (show ¬ (20 : Int32) = 10 by decide), if_neg (show ¬ (20 : Int32) = 11 by decide), if_pos rfl, g10]
  · unfold f_X3_count
    rw [if_neg (show ¬ (21 : Int32) = 10 by decide), if_neg (show ¬ (21 : Int32) = 11 by decide), if_neg (show ¬ (21 : Int32) = 20 by decide), if_pos rfl, g11]
