/-! isRoom answers 1 -/
theorem q_isR495 {M : wk_T} {n w t T r : Nat} {x : Int32} (h : s_S M M n w t T) (hr : r < n) : f_L_isRoom_495 (nI r) x x M = some (1, M) := by
  have hn8 : n ≤ 8 := h.1.1
  obtain ⟨-, -, -, -, -, -, -, -, -, -, -, -, -, -, r14⟩ := q_tell h hr
  obtain ⟨en4, en5, co5⟩ := q_energy4 h hr
  unfold f_L_isRoom_495
  rw [if_pos rfl, r14, s_cl_d, if_pos rfl, co5, s_cl_d, if_pos rfl, en4, s_cl_d]
  simp (disch := omega) only [s_m4, s_a1, s_a2, s_a3, s_gi, s_gj, s_cl]
  rw [if_pos trivial, en5, s_cl_d, if_pos rfl]
theorem q_isR456 {M : wk_T} {n w t T r : Nat} {x : Int32} (h : s_S M M n w t T) (hr : r < n) : f_L_isRoom_456 (nI r) x x M = some (1, M) := by
  have hn8 : n ≤ 8 := h.1.1
  obtain ⟨-, -, -, -, -, -, -, -, -, -, -, -, -, r13, -⟩ := q_tell h hr
  unfold f_L_isRoom_456
  rw [if_pos rfl, r13, s_cl_d]
  simp (disch := omega) only [s_m8, s_m2, s_33a, s_a5, s_gi, s_gj, s_cl]
  by_cases q : 2 ≤ M 16 0 0 (8 * r + 5)
  · rw [if_pos q, if_pos q]
    exact q_isR495 h hr
  · rw [if_neg q, if_neg q]
    exact q_isR495 h hr
theorem q_isR346 {M : wk_T} {n w t T r : Nat} (h : s_S M M n w t T) (hr : r < n) : f_L_isRoom_346 (nI r) (nI (s_uc M (nI r) w)) 1 M = some (1, M) := by
  have hn8 : n ≤ 8 := h.1.1
  obtain ⟨-, -, -, -, -, -, -, -, r8, r9, r10, r11, r12, -⟩ := q_tell h hr
  obtain ⟨z, z1_, z2_, z3_⟩ := j_called h hr
  unfold f_L_isRoom_346
  rw [if_neg (show ¬ (1 : Int32) = 0 by decide), r8, s_cl_d, if_pos rfl, r9, s_cl_d]
  simp (disch := omega) only [s_m8, s_a5, s_a6, s_a7, s_gi, s_gj, s_cl]
  rw [if_pos trivial, r10, s_cl_d, if_pos rfl, r11, s_cl_d, if_pos rfl, r12 z z1_ z3_, s_cl_d, z2_, s_cl_d]
  rcases z1_ with rfl | rfl
  · rw [if_pos rfl]
    exact q_isR456 h hr
  · rw [if_neg (show ¬ (1 : Int32) = 0 by decide)]
    exact q_isR456 h hr
theorem q_isR298 {M : wk_T} {n w t T r : Nat} {x : Int32} (h : s_S M M n w t T) (hr : r < n) : f_L_isRoom_298 (nI r) (nI (s_uc M (nI r) w)) x x M = some (1, M) := by
  have hn8 : n ≤ 8 := h.1.1
  obtain ⟨-, -, -, -, -, -, r6, r7, -⟩ := q_tell h hr
  unfold f_L_isRoom_298
  rw [if_pos rfl, r6, s_cl_d]
  simp (disch := omega) only [s_m8, s_a3, s_a4, s_gi, s_gj, s_cl]
  rw [if_pos trivial, r7, s_cl_d, if_pos rfl]
  exact q_isR346 h hr
theorem q_isR269 {M : wk_T} {n w t T r : Nat} {x : Int32} (h : s_S M M n w t T) (hr : r < n) : f_L_isRoom_269 (nI r) (nI (s_uc M (nI r) w)) (M 16 0 0 (8 * r)) x x M = some (1, M) := by
  have hn8 : n ≤ 8 := h.1.1
  obtain ⟨-, -, -, -, -, r5, -⟩ := q_tell h hr
  unfold f_L_isRoom_269
  rw [if_pos rfl, r5, s_cl_d]
  simp (disch := omega) only [s_m8, s_a2, s_gi, s_gj, s_cl]
  by_cases q : M 16 0 0 (8 * r) = 2
  · rw [if_pos q, if_pos q]
    exact q_isR298 h hr
  · rw [if_neg q, if_neg q]
    exact q_isR298 h hr
theorem q_isR238 {M : wk_T} {n w t T r : Nat} {x : Int32} (h : s_S M M n w t T) (hr : r < n) : f_L_isRoom_238 (nI r) (nI (s_uc M (nI r) w)) (M 16 0 0 (8 * r)) x x M = some (1, M) := by
  have hn8 : n ≤ 8 := h.1.1
  obtain ⟨-, -, -, -, r4, -⟩ := q_tell h hr
  obtain ⟨-, -, -, st, st1, st2, -⟩ := (h.2.1 r hr).2
  unfold f_L_isRoom_238
  rw [if_pos rfl, r4 st st2 st1, s_cl_d, show wk_rem (M 16 0 0 (8 * r)) 2 = nI (st % 2) by rw [st2]; exact s_rem2 (by omega)]
  simp (disch := omega) only [s_m8, s_a1, s_gi, s_gj, s_cl]
  by_cases q : st % 2 = 1
  · rw [if_pos q, if_pos (show nI (st % 2) = 1 by rw [q]; rfl)]
    exact q_isR269 h hr
  · rw [if_neg q, if_neg (show ¬ nI (st % 2) = 1 from fun z => q ((nI_eq (b := 1) (by omega) (by omega)).mp z))]
    exact q_isR269 h hr
theorem q_isR200 {M : wk_T} {n w t T r : Nat} {x : Int32} (h : s_S M M n w t T) (hr : r < n) : f_L_isRoom_200 (nI r) (nI (s_uc M (nI r) w)) (M 16 0 0 (8 * r)) x x M = some (1, M) := by
  have hn8 : n ≤ 8 := h.1.1
  obtain ⟨-, -, -, r3, -⟩ := q_tell h hr
  obtain ⟨⟨kd, kd1, kd2, kd3⟩, -⟩ := (h.2.1 r hr).2
  unfold f_L_isRoom_200
  rw [if_pos rfl, r3, s_cl_d]
  simp (disch := omega) only [s_m8, s_a7, s_gi, s_gj, s_cl]
  rcases kd3 with q | q
  · rw [if_pos q, if_neg (show ¬ 0 ≤ M 15 0 0 (8 * r + 7) by rw [q]; decide)]
    exact q_isR238 h hr
  · rw [if_neg (show ¬ M 15 0 0 (8 * r + 7) = -1 by rw [q]; exact s_nm (by omega)), if_pos (show 0 ≤ M 15 0 0 (8 * r + 7) by rw [q]; exact s_pos (by omega))]
    exact q_isR238 h hr
theorem q_isR122 {M : wk_T} {n w t T r : Nat} (h : s_S M M n w t T) (hr : r < n) : f_L_isRoom_122 (nI r) (nI (s_uc M (nI r) w)) 1 M = some (1, M) := by
  have hn8 : n ≤ 8 := h.1.1
  obtain ⟨r0, r1_, r2, -⟩ := q_tell h hr
  obtain ⟨-, -, nd, -⟩ := (h.2.1 r hr).2
  unfold f_L_isRoom_122
  simp (disch := omega) only [s_m8, s_a6, s_gi, s_gj, s_cl, s_lt_d]
  rw [if_neg (show ¬ (1 : Int32) = 0 by decide), r0, s_cl_d, if_pos rfl, r1_, s_cl_d, if_pos rfl, r2, s_cl_d]
  rcases nd with q | ⟨j, hj, q⟩
  · rw [if_pos q, if_neg (show ¬ 0 ≤ M 15 0 0 (8 * r + 6) by rw [q]; decide)]
    exact q_isR200 h hr
  · rw [if_neg (show ¬ M 15 0 0 (8 * r + 6) = -1 by rw [q]; exact s_nm (by omega)), if_pos (show 0 ≤ M 15 0 0 (8 * r + 6) by rw [q]; exact s_pos (by omega))]
    exact q_isR200 h hr
theorem q_isR48 {M : wk_T} {n w t T r : Nat} (h : s_S M M n w t T) (hr : r < n) : ∀ d k f, 5 - k = d → k ≤ 5 → f_L_isRoom_48 (f + d + 1) (nI r) (nI (s_uc M (nI r) w)) 1 (nI k) M = some (1, M) := by
  have hn8 : n ≤ 8 := h.1.1
  intro d
  induction d with
  | zero =>
    intro k f hd hk
    have hk5 : k = 5 := by omega
    subst hk5
    rw [f_L_isRoom_48, if_pos (show (5 : Int32) ≤ nI 5 from Int32.le_refl _)]
    exact q_isR122 h hr
  | succ d ih =>
    intro k f hd hk
    rw [show f + (d + 1) + 1 = (f + d + 1) + 1 by omega, f_L_isRoom_48, if_neg (show ¬ (5 : Int32) ≤ nI k from fun z => by have := (nI_leI (a := 5) (b := k) (by omega) (by omega)).mp z; omega), if_neg (show ¬ (1 : Int32) = 0 by decide), q_cost h hr (by omega), s_cl_d]
    unfold f_L_isRoom_109 f_L_isRoom_114
    simp (disch := omega) only [s_m8, s_m4, s_a1, nI_add, s_gi, s_gj, s_cl, s_lt_d]
    rw [if_pos trivial]
    by_cases q : k = 4
    · rw [if_pos (show nI k = 4 by rw [q]; rfl)]
      exact ih (k + 1) f (by omega) (by omega)
    · rw [if_neg (show ¬ nI k = 4 from fun z => q ((nI_eq (b := 4) (by omega) (by omega)).mp z)), q_energy h hr (by omega), s_cl_d, if_pos rfl]
      exact ih (k + 1) f (by omega) (by omega)
theorem q_isRoom {M : wk_T} {n w t T r : Nat} (h : s_S M M n w t T) (hr : r < n) : f_L_isRoom (nI r) M = some (1, M) := by
  obtain ⟨⟨g1, g2, g3, gT, g4, g5, g6, -⟩, -⟩ := id h
  have key : ∀ d k f, w - k = d → k ≤ w → f_L_isRoom_9 (f + d + 1) (nI r) (nI (s_uc M (nI r) k)) 1 (nI k) M = some (1, M) := by
    intro d
    induction d with
    | zero =>
      intro k f hd hk
      have hkw : k = w := by omega
      subst hkw
      rw [f_L_isRoom_9, g6, if_pos (show nI k ≤ nI k from Int32.le_refl _)]
      exact q_isR48 h hr 5 0 94 rfl (by omega)
    | succ d ih =>
      intro k f hd hk
      rw [show f + (d + 1) + 1 = (f + d + 1) + 1 by omega, f_L_isRoom_9, g6, if_neg (show ¬ nI w ≤ nI k by rw [s_leI (by omega) (by omega)]; omega)]
      unfold f_L_isRoom_36
      simp (disch := omega) only [s_m3, s_gi, s_gj, s_cl, s_lt_d, s_a1]
      have e := ih (k + 1) f (by omega) (by omega)
      have hs : s_uc M (nI r) (k + 1) = s_uc M (nI r) k + if M 18 0 0 (3 * k) = nI r then 1 else 0 := rfl
      rw [hs] at e
      by_cases q : M 18 0 0 (3 * k) = nI r
      · rw [if_pos q] at e ⊢
        exact e
      · rw [if_neg q] at e ⊢
        rw [Int32.add_zero]
        exact e
  unfold f_L_isRoom
  have e := key (w - 0) 0 (99 - (w - 0)) rfl (by omega)
  rw [show (99 - (w - 0)) + (w - 0) + 1 = wk_fuel by show _ = 100; omega] at e
  exact e
