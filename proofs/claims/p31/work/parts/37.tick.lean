/-! a tick, both ways -/
theorem j_ph1 {n t : Nat} : ∀ (d r : Nat) (L C : wk_T) (w T m : Nat), n - r = d → r ≤ n → s_S L C n w t T → T + 2 * d ≤ 1000000 → ∃ L' C' w' T' c lt, T ≤ T' ∧ T' ≤ T + 2 * d ∧ c ≤ d ∧ lt ≤ 1000000 * d ∧ (∀ f, f_L_tick_6 (f + d + 1) (lN m) (nI r) L = f_L_tick_272 wk_fuel (lN (m + (c + 1000 * lt))) 0 L') ∧ (∀ f, f_X0_passTick_2 0 (f + d + 1) (nI r) C = f_X0_passTick_52 0 wk_fuel 0 C') ∧ s_S L' C' n w' t T' ∧ s_l L L' ∧ s_c C C' ∧ s_B C' n = s_B C n + nI c := by
  intro d
  induction d with
  | zero =>
    intro r L C w T m hd hr h hT
    obtain ⟨⟨g1, g2, g3, gT, g4, g5, -⟩, -⟩ := id h
    have hrn : r = n := by omega
    subst hrn
    refine ⟨L, C, w, T, 0, 0, Nat.le_refl _, by omega, by omega, by omega, fun f => ?_, fun f => ?_, h, s_l.rf, s_c.rf, ?_⟩
    · rw [f_L_tick_6, g4, if_pos (show nI r ≤ nI r from Int32.le_refl _)]
      rfl
    · rw [f_X0_passTick_2, g5, if_pos (show nI r ≤ nI r from Int32.le_refl _)]
    · rw [nI_0, Int32.add_zero]
  | succ d ih =>
    intro r L C w T m hd hr h hT
    obtain ⟨⟨g1, g2, g3, gT, g4, g5, -⟩, -⟩ := id h
    have hni : ¬ nI n ≤ nI r := by rw [s_leI (by omega) (by omega)]; omega
    obtain ⟨L1, C1, w1, T1, c1, lt1, x1, x2, x3, x4, x5, x6, x7, x8, x9, x10⟩ := j_stepA (told := lN m) h (show r < n by omega) (by omega)
    obtain ⟨L', C', w', T', c, lt, y1, y2, y3, y4, y5, y6, y7, y8, y9, y10⟩ := ih (r + 1) L1 C1 w1 T1 (m + (c1 + 1000 * lt1)) (by omega) (by omega) x7 (by omega)
    refine ⟨L', C', w', T', c1 + c, lt1 + lt, by omega, by omega, by omega, by omega, fun f => ?_, fun f => ?_, y7, x8.tr y8, x9.tr y9, ?_⟩
    · rw [show f + (d + 1) + 1 = (f + d + 1) + 1 by omega, f_L_tick_6, g4, if_neg hni, x5, lN_add, y5 f, show m + (c1 + 1000 * lt1) + (c + 1000 * lt) = m + (c1 + c + 1000 * (lt1 + lt)) by omega]
    · rw [show f + (d + 1) + 1 = (f + d + 1) + 1 by omega, x6 (f + d + 1), y6 f]
    · rw [y10, x10, Int32.add_assoc, nI_add]
theorem j_ph2 {n t T w : Nat} {told : Int64} : ∀ (d r : Nat) (L C : wk_T), n - r = d → r ≤ n → s_S L C n w t T → ∃ L' C', (∀ f, f_L_tick_272 (f + d + 1) told (nI r) L = f_L_tick_366 wk_fuel told 0 L') ∧ (∀ f, f_X0_passTick_52 0 (f + d + 1) (nI r) C = f_X0_passTick_77 0 wk_fuel 0 C') ∧ s_S L' C' n w t T ∧ s_l L L' ∧ s_c C C' ∧ (∀ i, C' 6 0 i 10 = C 6 0 i 10) := by
  intro d
  induction d with
  | zero =>
    intro r L C hd hr h
    obtain ⟨⟨g1, g2, g3, gT, g4, g5, -⟩, -⟩ := id h
    have hrn : r = n := by omega
    subst hrn
    refine ⟨L, C, fun f => ?_, fun f => ?_, h, s_l.rf, s_c.rf, fun _ => rfl⟩
    · rw [f_L_tick_272, g4, if_pos (show nI r ≤ nI r from Int32.le_refl _)]
    · rw [f_X0_passTick_52, g5, if_pos (show nI r ≤ nI r from Int32.le_refl _)]
  | succ d ih =>
    intro r L C hd hr h
    obtain ⟨L1, C1, x1, x2, x3, x4, x5, x6⟩ := j_pay (told := told) h (show r < n by omega)
    obtain ⟨L', C', y1, y2, y3, y4, y5, y6⟩ := ih (r + 1) L1 C1 (by omega) (by omega) x3
    refine ⟨L', C', fun f => ?_, fun f => ?_, y3, x4.tr y4, x5.tr y5, fun i => (y6 i).trans (x6 i)⟩
    · rw [show f + (d + 1) + 1 = (f + d + 1) + 1 by omega, x1 (f + d + 1), y1 f]
    · rw [show f + (d + 1) + 1 = (f + d + 1) + 1 by omega, x2 (f + d + 1), y2 f]
theorem s_time {L C : wk_T} {n w t T : Nat} (h : s_S L C n w t T) (hT : T + 1 ≤ 1000000) : s_S (wk_up L 14 0 0 2 (nI (t + 1))) (wk_up C 0 0 0 7 (nI (t + 1))) n w (t + 1) (T + 1) := by
  obtain ⟨⟨g1, g2, g3, gT, g4, g5, g6, g7, g8, g9, g10, g11⟩, hR, hZ, hU⟩ := id h
  refine ⟨⟨g1, g2, by omega, hT, ?_⟩, fun i hi => ?_, fun i hi1 hi2 => ?_, fun k hk => ?_⟩
  · simp (disch := omega) only [u_e, u_n]
    exact ⟨g4, g5, g6, g7, trivial, trivial, g10, g11⟩
  · obtain ⟨q1, q2⟩ := hR i hi
    have q2 := s_O_mono q2 (show T ≤ T + 1 by omega)
    refine ⟨?_, ?_⟩
    · unfold s_R at q1 ⊢
      simp (disch := omega) only [u_n]
      exact q1
    · unfold s_O at q2 ⊢
      simp (disch := omega) only [u_n]
      exact q2
  · have q := hZ i hi1 hi2
    unfold s_Z at q ⊢
    simp (disch := omega) only [u_n]
    exact q
  · have q := s_U_mono (hU k hk) (show T ≤ T + 1 by omega)
    unfold s_U at q ⊢
    simp (disch := omega) only [u_n]
    exact q
theorem j_ph3 {n t T w : Nat} {told : Int64} (hT : T + 1 ≤ 1000000) : ∀ (d r : Nat) (L C : wk_T), n - r = d → r ≤ n → s_S L C n w t T → ∃ L' C', (∀ f, f_L_tick_366 (f + d + 1) told (nI r) L = some (told, L')) ∧ (∀ f, f_X0_passTick_77 0 (f + d + 1) (nI r) C = some ((), C')) ∧ s_S L' C' n w (t + 1) (T + 1) ∧ s_l L L' ∧ s_c C C' ∧ (∀ i, C' 6 0 i 10 = C 6 0 i 10) := by
  intro d
  induction d with
  | zero =>
    intro r L C hd hr h
    obtain ⟨⟨g1, g2, g3, gT, g4, g5, g6, g7, g8, g9, -⟩, -⟩ := id h
    have hrn : r = n := by omega
    subst hrn
    refine ⟨_, _, fun f => ?_, fun f => ?_, s_time h hT, s_l.up (by omega), s_c.up (by omega), fun _ => u_n (by omega)⟩
    · rw [f_L_tick_366, g4, if_pos (show nI r ≤ nI r from Int32.le_refl _), s_mu_d, g8, s_a1]
    · rw [f_X0_passTick_77, g5, if_pos (show nI r ≤ nI r from Int32.le_refl _), s_mu_d, g9, s_a1]
  | succ d ih =>
    intro r L C hd hr h
    obtain ⟨⟨g1, g2, g3, gT, g4, g5, -⟩, -⟩ := id h
    have hni : ¬ nI n ≤ nI r := by rw [s_leI (by omega) (by omega)]; omega
    obtain ⟨L1, C1, x1, x2, x3, x4, x5, x6⟩ := j_goOn (told := told) h (show r < n by omega)
    obtain ⟨L', C', y1, y2, y3, y4, y5, y6⟩ := ih (r + 1) L1 C1 (by omega) (by omega) x3
    refine ⟨L', C', fun f => ?_, fun f => ?_, y3, x4.tr y4, x5.tr y5, fun i => (y6 i).trans (x6 i)⟩
    · rw [show f + (d + 1) + 1 = (f + d + 1) + 1 by omega, x1 (f + d + 1), y1 f]
    · rw [show f + (d + 1) + 1 = (f + d + 1) + 1 by omega, f_X0_passTick_77, g5, if_neg hni, x2, s_cl_d, s_lt_d, s_a1, y2 f]
theorem j_tick {L C : wk_T} {n w t T : Nat} (h : s_S L C n w t T) (hT : T + 17 ≤ 1000000) : ∃ L' C' w' T' c lt, T ≤ T' ∧ T' ≤ T + 17 ∧ c ≤ 8 ∧ lt ≤ 8000000 ∧ f_L_tick L = some (lN (c + 1000 * lt), L') ∧ f_X0_passTick 0 C = some ((), C') ∧ s_S L' C' n w' (t + 1) T' ∧ s_l L L' ∧ s_c C C' ∧ s_B C' n = s_B C n + nI c := by
  obtain ⟨⟨g1, -⟩, -⟩ := id h
  obtain ⟨L1, C1, w1, T1, c, lt, x1, x2, x3, x4, x5, x6, x7, x8, x9, x10⟩ := j_ph1 (n - 0) 0 L C w T 0 rfl (by omega) h (by omega)
  obtain ⟨L2, C2, y1, y2, y3, y4, y5, y6⟩ := j_ph2 (told := lN (0 + (c + 1000 * lt))) (n - 0) 0 L1 C1 rfl (by omega) x7
  obtain ⟨L3, C3, z1, z2, z3, z4, z5, z6⟩ := j_ph3 (told := lN (0 + (c + 1000 * lt))) (by omega) (n - 0) 0 L2 C2 rfl (by omega) y3
  have hf : ∀ k, k ≤ 8 → wk_fuel = (99 - k) + k + 1 := fun k hk => by show 100 = _; omega
  refine ⟨L3, C3, w1, T1 + 1, c, lt, by omega, by omega, by omega, by omega, ?_, ?_, z3, (x8.tr y4).tr z4, (x9.tr y5).tr z5, ?_⟩
  · unfold f_L_tick
    have e1 := x5 (99 - (n - 0))
    rw [← hf (n - 0) (by omega)] at e1
    have e2 := y1 (99 - (n - 0))
    rw [← hf (n - 0) (by omega)] at e2
    have e3 := z1 (99 - (n - 0))
    rw [← hf (n - 0) (by omega)] at e3
    refine (show f_L_tick_6 wk_fuel 0 0 L = _ from e1).trans ((show f_L_tick_272 wk_fuel _ 0 L1 = _ from e2).trans ((show f_L_tick_366 wk_fuel _ 0 L2 = _ from e3).trans ?_))
    rw [Nat.zero_add]
  · unfold f_X0_passTick
    have e1 := x6 (99 - (n - 0))
    rw [← hf (n - 0) (by omega)] at e1
    have e2 := y2 (99 - (n - 0))
    rw [← hf (n - 0) (by omega)] at e2
    have e3 := z2 (99 - (n - 0))
    rw [← hf (n - 0) (by omega)] at e3
    exact (show f_X0_passTick_2 0 wk_fuel 0 C = _ from e1).trans ((show f_X0_passTick_52 0 wk_fuel 0 C1 = _ from e2).trans (show f_X0_passTick_77 0 wk_fuel 0 C2 = _ from e3))
  · rw [s_B_same n (fun i _ => z6 i), s_B_same n (fun i _ => y6 i), x10]
/-- many ticks -/
def s_run : Nat → Int64 → wk_T → Option (Int64 × wk_T)
  | 0, m, M => some (m, M)
  | d + 1, m, M => wk_cl (f_L_tick M) (fun r M' => s_run d (m + r) M')
theorem s_runL {tk : Nat} (htk : tk ≤ 60) : ∀ (d i f : Nat) (m : Int64) (M : wk_T) (m' : Int64) (M' : wk_T), tk - i = d → i ≤ tk → s_run d m M = some (m', M') → f_L_acts_488 (f + d + 1) (nI tk) m (nI i) M = f_L_acts_488 1 (nI tk) m' (nI tk) M' := by
  intro d
  induction d with
  | zero =>
    intro i f m M m' M' hd hi h
    have hit : i = tk := by omega
    subst hit
    cases h
    rw [f_L_acts_488, f_L_acts_488, if_pos (show nI i ≤ nI i from Int32.le_refl _), if_pos (show nI i ≤ nI i from Int32.le_refl _)]
  | succ d ih =>
    intro i f m M m' M' hd hi h
    rw [s_run] at h
    obtain ⟨r, M1, e1, h⟩ := wk_cl_e h
    rw [show f + (d + 1) + 1 = (f + d + 1) + 1 by omega, f_L_acts_488, if_neg (show ¬ nI tk ≤ nI i by rw [s_leI (by omega) (by omega)]; omega), e1, s_cl_d, s_ll_d, s_lt_d, s_a1]
    exact ih (i + 1) f _ M1 m' M' (by omega) (by omega) h
theorem j_ticks {n tk : Nat} {v2 : Int32} (htk : tk ≤ 60) : ∀ (d i : Nat) (L C : wk_T) (w t T m : Nat), tk - i = d → i ≤ tk → s_S L C n w t T → T + 17 * d ≤ 1000000 → ∃ L' C' w' T' c lt, T ≤ T' ∧ T' ≤ T + 17 * d ∧ c ≤ 8 * d ∧ lt ≤ 8000000 * d ∧ s_run d (lN m) L = some (lN (m + (c + 1000 * lt)), L') ∧ (∀ f, f_X0_letTicksGoBy_34 0 (f + d + 1) (nI tk) v2 (nI i) C = f_X0_letTicksGoBy_34 0 1 (nI tk) v2 (nI tk) C') ∧ s_S L' C' n w' (t + d) T' ∧ s_l L L' ∧ s_c C C' ∧ s_B C' n = s_B C n + nI c := by
  intro d
  induction d with
  | zero =>
    intro i L C w t T m hd hi h hT
    have hit : i = tk := by omega
    subst hit
    refine ⟨L, C, w, T, 0, 0, Nat.le_refl _, by omega, by omega, by omega, rfl, fun f => ?_, h, s_l.rf, s_c.rf, ?_⟩
    · rw [f_X0_letTicksGoBy_34, f_X0_letTicksGoBy_34, if_pos (show nI i ≤ nI i from Int32.le_refl _), if_pos (show nI i ≤ nI i from Int32.le_refl _)]
    · rw [nI_0, Int32.add_zero]
  | succ d ih =>
    intro i L C w t T m hd hi h hT
    obtain ⟨L1, C1, w1, T1, c1, lt1, x1, x2, x3, x4, x5, x6, x7, x8, x9, x10⟩ := j_tick h (by omega)
    obtain ⟨L', C', w', T', c, lt, y1, y2, y3, y4, y5, y6, y7, y8, y9, y10⟩ := ih (i + 1) L1 C1 w1 (t + 1) T1 (m + (c1 + 1000 * lt1)) (by omega) (by omega) x7 (by omega)
    refine ⟨L', C', w', T', c1 + c, lt1 + lt, by omega, by omega, by omega, by omega, ?_, fun f => ?_, by rw [show t + (d + 1) = t + 1 + d by omega]; exact y7, x8.tr y8, x9.tr y9, ?_⟩
    · rw [s_run, x5, s_cl_d, lN_add, y5, show m + (c1 + 1000 * lt1) + (c + 1000 * lt) = m + (c1 + c + 1000 * (lt1 + lt)) by omega]
    · rw [show f + (d + 1) + 1 = (f + d + 1) + 1 by omega, f_X0_letTicksGoBy_34, if_neg (show ¬ nI tk ≤ nI i by rw [s_leI (by omega) (by omega)]; omega), x6, s_cl_d, s_lt_d, s_a1, y6 f]
    · rw [y10, x10, Int32.add_assoc, nI_add]
