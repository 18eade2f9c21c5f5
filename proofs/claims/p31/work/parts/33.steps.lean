theorem u_e {M : wk_T} {k c i s k' c' i' s' : Nat} {v : Int32} (h1 : k' = k) (h2 : c' = c) (h3 : i' = i) (h4 : s' = s) : wk_up M k c i s v k' c' i' s' = v := by
  subst h1; subst h2; subst h3; subst h4
  unfold wk_up
  rw [wk_ur_s]
  exact if_pos rfl
theorem u_n {M : wk_T} {k c i s k' c' i' s' : Nat} {v : Int32} (h : ¬ (k' = k ∧ c' = c ∧ i' = i ∧ s' = s)) : wk_up M k c i s v k' c' i' s' = M k' c' i' s' := by
  unfold wk_up
  by_cases q : k' = k ∧ c' = c ∧ i' = i
  · obtain ⟨rfl, rfl, rfl⟩ := q
    rw [wk_ur_s]
    exact if_neg (fun z => h ⟨rfl, rfl, rfl, z⟩)
  · rw [wk_ur_n q]
theorem u_r {M : wk_T} {k c i s k' c' i' : Nat} {v : Int32} (h : ¬ (k' = k ∧ c' = c ∧ i' = i)) : wk_up M k c i s v k' c' i' = M k' c' i' := by
  unfold wk_up
  rw [wk_ur_n h]
/-- only the law's rows; only the rows of chip 0 -/
def s_l (L L' : wk_T) : Prop := ∀ k c i, (k < 14 ∨ k = 15) → L' k c i = L k c i
def s_c (C C' : wk_T) : Prop := ∀ k c i, (9 ≤ k ∨ c ≠ 0) → C' k c i = C k c i
theorem s_l.rf {L : wk_T} : s_l L L := fun _ _ _ _ => rfl
theorem s_c.rf {L : wk_T} : s_c L L := fun _ _ _ _ => rfl
theorem s_l.tr {L L1 L2 : wk_T} (h : s_l L L1) (h2 : s_l L1 L2) : s_l L L2 := fun k c i q => (h2 k c i q).trans (h k c i q)
theorem s_c.tr {L L1 L2 : wk_T} (h : s_c L L1) (h2 : s_c L1 L2) : s_c L L2 := fun k c i q => (h2 k c i q).trans (h k c i q)
theorem s_l.up {L : wk_T} {k c i s : Nat} {v : Int32} (h : 14 ≤ k ∧ k ≠ 15) : s_l L (wk_up L k c i s v) := fun k' c' i' q => u_r (fun z => by omega)
theorem s_c.up {L : wk_T} {k i s : Nat} {v : Int32} (h : k < 9) : s_c L (wk_up L k 0 i s v) := fun k' c' i' q => u_r (fun z => by omega)
theorem s_O_mono {L : wk_T} {i T T' : Nat} (h : s_O L i T) (hT : T ≤ T') : s_O L i T' := by
  obtain ⟨h1, h2, h3, st, h4, h5, ⟨bg, h6, h7⟩, ⟨wk, h8, h9, h10⟩, h11⟩ := h
  exact ⟨h1, h2, h3, st, h4, h5, ⟨bg, by omega, h7⟩, ⟨wk, by omega, h9, h10⟩, h11⟩
theorem s_U_mono {L C : wk_T} {n k T T' : Nat} (h : s_U L C n T k) (hT : T ≤ T') : s_U L C n T' k := by
  obtain ⟨h1, h2, h3, r, tm, ln, h4, h5, h6, h7, h8⟩ := h
  exact ⟨h1, h2, h3, r, tm, ln, h4, by omega, h6, h7, h8⟩
theorem s_S_mono {L C : wk_T} {n w t T T' : Nat} (h : s_S L C n w t T) (hT : T ≤ T') (hT2 : T' ≤ 1000000) : s_S L C n w t T' := by
  obtain ⟨⟨g1, g2, g3, gT, g4⟩, hR, hZ, hU⟩ := h
  exact ⟨⟨g1, g2, by omega, hT2, g4⟩, fun i hi => ⟨(hR i hi).1, s_O_mono (hR i hi).2 hT⟩, hZ, fun k hk => s_U_mono (hU k hk) hT⟩
/-- one room changes -/
theorem s_S_room {L C L' C' : wk_T} {n w t T T' r : Nat} (h : s_S L C n w t T) (hr : r < n) (hT : T ≤ T') (hT2 : T' ≤ 1000000) (h14 : ∀ s, L' 14 0 0 s = L 14 0 0 s) (h18 : ∀ s, L' 18 0 0 s = L 18 0 0 s) (h15 : ∀ s, L' 15 0 0 s = L 15 0 0 s) (h16 : ∀ s, ¬ (8 * r ≤ s ∧ s < 8 * r + 8) → L' 16 0 0 s = L 16 0 0 s)
    (h17 : ∀ s, ¬ (4 * r ≤ s ∧ s < 4 * r + 4) → s ≠ 32 + 2 * r → s ≠ 33 + 2 * r → L' 17 0 0 s = L 17 0 0 s) (hC : ∀ k i, ¬ (6 ≤ k ∧ k ≤ 8 ∧ i = r) → C' k 0 i = C k 0 i) (h1 : s_R L' C' r) (h2 : s_O L' r T') : s_S L' C' n w t T' := by
  obtain ⟨⟨g1, g2, g3, gT, g4, g5, g6, g7, g8, g9, g10, g11⟩, hR, hZ, hU⟩ := h
  have e0 : C' 0 0 0 = C 0 0 0 := hC 0 0 (by omega)
  have e2 : C' 2 0 0 = C 2 0 0 := hC 2 0 (by omega)
  have e3 : C' 3 0 0 = C 3 0 0 := hC 3 0 (by omega)
  have e4 : C' 4 0 0 = C 4 0 0 := hC 4 0 (by omega)
  have e5 : C' 5 0 0 = C 5 0 0 := hC 5 0 (by omega)
  refine ⟨⟨g1, g2, by omega, hT2, by rw [h14]; exact g4, by rw [e0]; exact g5, by rw [h14]; exact g6, by rw [e0]; exact g7, by rw [h14]; exact g8, by rw [e0]; exact g9, by rw [h14, e2]; exact g10, by rw [h14, e2]; exact g11⟩, fun i hi => ?_, fun i hi1 hi2 => ?_, fun k hk => ?_⟩
  · by_cases q : i = r
    · subst q
      exact ⟨h1, h2⟩
    · obtain ⟨q1, q2⟩ := hR i hi
      have f6 : C' 6 0 i = C 6 0 i := hC 6 i (by omega)
      have f7 : C' 7 0 i = C 7 0 i := hC 7 i (by omega)
      have f8 : C' 8 0 i = C 8 0 i := hC 8 i (by omega)
      have f16 : ∀ k, k < 8 → L' 16 0 0 (8 * i + k) = L 16 0 0 (8 * i + k) := fun k hk => h16 _ (by omega)
      have f160 : L' 16 0 0 (8 * i) = L 16 0 0 (8 * i) := f16 0 (by omega)
      have f17 : ∀ k, k < 4 → L' 17 0 0 (4 * i + k) = L 17 0 0 (4 * i + k) := fun k hk => h17 _ (by omega) (by omega) (by omega)
      have f170 : L' 17 0 0 (4 * i) = L 17 0 0 (4 * i) := f17 0 (by omega)
      have f32 : L' 17 0 0 (32 + 2 * i) = L 17 0 0 (32 + 2 * i) := h17 _ (by omega) (by omega) (by omega)
      have f33 : L' 17 0 0 (33 + 2 * i) = L 17 0 0 (33 + 2 * i) := h17 _ (by omega) (by omega) (by omega)
      refine ⟨?_, s_O_mono ?_ hT⟩
      · unfold s_R at q1 ⊢
        rw [f6, f7, f8, f160, f170, f32, f33, f16 1 (by omega), f16 2 (by omega), f16 3 (by omega), f16 4 (by omega), f16 5 (by omega), f16 6 (by omega), f16 7 (by omega), f17 1 (by omega), f17 2 (by omega), f17 3 (by omega)]
        simp only [h15]
        exact q1
      · unfold s_O at q2 ⊢
        rw [f160, f16 1 (by omega), f16 5 (by omega), f16 7 (by omega)]
        simp only [h15]
        exact q2
  · obtain ⟨q1, q2, q3⟩ := hZ i hi1 hi2
    exact ⟨fun k hk => by rw [h16 _ (by omega)]; exact q1 k hk, fun k hk => by rw [h17 _ (by omega) (by omega) (by omega)]; exact q2 k hk, by rw [h17 _ (by omega) (by omega) (by omega)]; exact q3⟩
  · have q := s_U_mono (hU k hk) hT
    unfold s_U at q ⊢
    rw [e3, e4, e5]
    simp only [h18]
    exact q
/-- a room begins to wake -/
theorem j_wake {L C : wk_T} {n w t T r : Nat} (h : s_S L C n w t T) (hr : r < n) (hT : T + 1 ≤ 1000000) (hst : L 16 0 0 (8 * r) = 0) : ∃ L' C', f_L_wake (nI r) L = some ((), L') ∧ f_X2_startWaking 0 r C = some ((), C') ∧ s_S L' C' n w t (T + 1) ∧ s_l L L' ∧ s_c C C' ∧ (f_L_ready (nI r) L = some (1, L) → f_L_ready (nI r) L' = some (1, L')) ∧ (∀ i, C' 6 0 i 10 = C 6 0 i 10) := by
  obtain ⟨⟨g1, g2, g3, gT, g4, g5, g6, g7, g8, g9, g10, g11⟩, hR, hZ, hU⟩ := id h
  obtain ⟨⟨⟨a0, a1, a2, a3, a4, a5, a6, a7⟩, ⟨b0, b3, b4, b5, b6, b7⟩, ⟨e0, e1, e2, e3, e4⟩, c1, c2, c3⟩, ⟨kd, kd1, kd2, kd3⟩, ⟨wt, wt1, wt2, wt3⟩, nd, st, st1, st2, ⟨bg, bg1, bg2⟩, ⟨wk, wk1, wk2, wk3⟩, lf⟩ := hR r hr
  unfold f_L_wake f_X2_startWaking
  simp (disch := omega) only [s_m8, s_m4, s_a1, s_a2, s_a7, s_gi, s_gj, s_cl, s_mu_d, u_e, u_n]
  refine ⟨_, _, rfl, rfl, ?_, ?_, ?_, ?_, fun i => by simp (disch := omega) only [u_n]⟩
  · refine s_S_room h hr (by omega) hT (fun s => ?_) (fun s => ?_) (fun s => ?_) (fun s hs => ?_) (fun s hs1 hs2 hs3 => ?_) (fun k i hk => ?_) ?_ ?_
    · simp (disch := omega) only [u_n]
    · simp (disch := omega) only [u_n]
    · simp (disch := omega) only [u_n]
    · simp (disch := omega) only [u_n]
    · simp (disch := omega) only [u_n]
    · simp (disch := omega) only [u_r]
    · unfold s_R
      simp (disch := omega) only [u_e, u_n]
      refine ⟨⟨a0, a1, a2, a3, a4, a5, a6, a7⟩, ⟨trivial, b3, b4, b5, b6, by rw [b7]⟩, ⟨by rw [e0, a1], e1, e2, e3, e4⟩, fun _ => a2, fun z => absurd z (by decide), c3⟩
    · unfold s_O
      simp (disch := omega) only [u_e, u_n]
      refine ⟨⟨kd, kd1, kd2, kd3⟩, ⟨wt, wt1, wt2, wt3⟩, nd, 1, by omega, rfl, ⟨bg, by omega, bg2⟩, ⟨wk + 1, by omega, by rw [wk2, s_a1], fun _ => by omega⟩, fun _ => ⟨wt, wt1, wt2, wt3⟩⟩
  · exact ((((s_l.rf).tr (s_l.up (by omega))).tr (s_l.up (by omega))).tr (s_l.up (by omega))).tr (s_l.up (by omega))
  · exact ((((s_c.rf).tr (s_c.up (by omega))).tr (s_c.up (by omega))).tr (s_c.up (by omega))).tr (s_c.up (by omega))
  · intro hz
    unfold f_L_ready at hz ⊢
    simp (disch := omega) only [s_m8, s_a6, s_gi, s_gj, s_cl, u_e, u_n] at hz ⊢
    rcases nd with nd | ⟨j, hj, nd⟩
    · rw [nd, if_pos (show (-1 : Int32) < 0 by decide)]
    · rw [nd] at hz ⊢
      rw [if_neg (show ¬ nI j < 0 from s_neg (by omega))] at hz ⊢
      simp (disch := omega) only [s_m8, s_gi, s_gj, s_cl, u_e, u_n] at hz ⊢
      by_cases q : L 16 0 0 (8 * j) ≤ 1
      · rw [if_pos q] at hz
        cases hz
      · rw [if_neg q]
