/-! the history, which the law doesn't see -/
def s_Hs (M : wk_T) : Prop := (∃ hs, hs ≤ 4 ∧ M 9 0 0 3 = nI hs) ∧ (∀ j, j < 5 → ∃ c, 2 ≤ c ∧ c < 7 ∧ M 10 0 0 j = nI c) ∧ M 11 0 0 1 = 0
def s_h (M M' : wk_T) : Prop := ∀ k i, k ≠ 9 → k ≠ 10 → M' k 0 i = M k 0 i
theorem s_S_c {L C L' C' : wk_T} {n w t T : Nat} (h : s_S L C n w t T) (h1 : ∀ k, 14 ≤ k → L' k 0 0 = L k 0 0) (h2 : ∀ k i, k < 9 → C' k 0 i = C k 0 i) : s_S L' C' n w t T := by
  unfold s_S s_G at h ⊢
  unfold s_R s_O s_Z s_U at h ⊢
  simp only [h1 14 (by omega), h1 15 (by omega), h1 16 (by omega), h1 17 (by omega), h1 18 (by omega), h2 0 _ (by omega), h2 2 _ (by omega), h2 3 _ (by omega), h2 4 _ (by omega), h2 5 _ (by omega), h2 6 _ (by omega), h2 7 _ (by omega), h2 8 _ (by omega)]
  exact h
theorem s_cpX2 {M : wk_T} {c r : Nat} : ∃ M', f_X2_copyFrom c r 0 r M = some ((), M') ∧ ∀ k c' i, c' ≠ c → M' k c' i = M k c' i := by
  unfold f_X2_copyFrom
  simp only [s_mu_d]
  refine ⟨_, rfl, fun k c' i hc => ?_⟩
  have hz : ∀ k2 i2, ¬ (k = k2 ∧ c' = c ∧ i = i2) := fun _ _ z => hc z.2.1
  simp only [u_r (hz _ _), wk_ur_n (hz _ _)]
theorem s_cpX0 {n c : Nat} (hn : n ≤ 8) (hc : c ≠ 0) : ∀ (d r f : Nat) (M : wk_T), n - r = d → r ≤ n → M 0 0 0 1 = nI n → ∃ M', f_X0_copyFrom_2 c 0 (f + d + 1) (nI r) M = some ((), M') ∧ ∀ k c' i, c' ≠ c → M' k c' i = M k c' i := by
  intro d
  induction d with
  | zero =>
    intro r f M hd hr hg
    have hrn : r = n := by omega
    subst hrn
    rw [f_X0_copyFrom_2, hg, if_pos (show nI r ≤ nI r from Int32.le_refl _)]
    simp only [s_mu_d]
    refine ⟨_, rfl, fun k c' i hc' => ?_⟩
    have hz : ∀ k2 i2, ¬ (k = k2 ∧ c' = c ∧ i = i2) := fun _ _ z => hc' z.2.1
    simp only [u_r (hz _ _), wk_ur_n (hz _ _)]
  | succ d ih =>
    intro r f M hd hr hg
    rw [show f + (d + 1) + 1 = (f + d + 1) + 1 by omega, f_X0_copyFrom_2, hg, if_neg (show ¬ nI n ≤ nI r by rw [s_leI (by omega) (by omega)]; omega)]
    simp (disch := omega) only [s_gi, s_gj, s_cl, s_lt_d, s_a1]
    obtain ⟨M1, x1, x2⟩ := s_cpX2 (M := M) (c := c) (r := r)
    obtain ⟨M2, y1, y2⟩ := ih (r + 1) f M1 (by omega) (by omega) (by rw [x2 0 0 0 (fun z => hc z.symm)]; exact hg)
    refine ⟨M2, ?_, fun k c' i hc' => (y2 k c' i hc').trans (x2 k c' i hc')⟩
    rw [x1, s_cl_d]
    exact y1
theorem j_note {M : wk_T} {n : Nat} (h : s_Hs M) (hn : n ≤ 8) (hg : M 0 0 0 1 = nI n) : ∃ M', f_X3_note M = some ((), M') ∧ ∀ k i, M' k 0 i = M k 0 i := by
  obtain ⟨⟨hs, h1, h2⟩, h3, -⟩ := h
  obtain ⟨c, c1, c2, c3⟩ := h3 hs (by omega)
  obtain ⟨M', x1, x2⟩ := s_cpX0 (n := n) (c := c) hn (by omega) (n - 0) 0 (99 - (n - 0)) M rfl (by omega) hg
  refine ⟨M', ?_, fun k i => x2 k 0 i (by omega)⟩
  unfold f_X3_note
  rw [h2, if_neg (show ¬ (5 : Int32) ≤ nI hs from fun z => by have := (nI_leI (a := 5) (b := hs) (by omega) (by omega)).mp z; omega)]
  simp (disch := omega) only [s_gi, s_gj, s_cl, s_ln_d]
  rw [c3]
  simp (disch := omega) only [s_cl]
  rw [s_gd (show c < 7 from c2)]
  unfold f_X0_copyFrom
  rw [show wk_fuel = (99 - (n - 0)) + (n - 0) + 1 by show 100 = _; omega]
  rw [show f_X0_copyFrom_2 c 0 ((99 - (n - 0)) + (n - 0) + 1) 0 M = some ((), M') from x1, s_cl_d]
theorem s_dropO {c1 : Nat} (hc1 : 2 ≤ c1) (hc2 : c1 < 7) : ∀ (d i f : Nat) (M : wk_T), 4 - i = d → i ≤ 4 → (∀ j, j < 5 → ∃ c, 2 ≤ c ∧ c < 7 ∧ M 10 0 0 j = nI c) → ∃ M', f_X3_dropOldest_9 (f + d + 1) c1 (nI i) M = some ((), M') ∧ (∀ k c i', k ≠ 9 → k ≠ 10 → M' k c i' = M k c i') ∧ (∀ j, j < 5 → ∃ c, 2 ≤ c ∧ c < 7 ∧ M' 10 0 0 j = nI c) ∧ M' 9 0 0 3 = nI 4 := by
  intro d
  induction d with
  | zero =>
    intro i f M hd hi hM
    have hi4 : i = 4 := by omega
    subst hi4
    rw [f_X3_dropOldest_9, if_pos (show (4 : Int32) ≤ nI 4 from Int32.le_refl _)]
    simp only [s_mu_d]
    refine ⟨_, rfl, fun k c i' h1 h2 => ?_, fun j hj => ?_, ?_⟩
    · simp (disch := omega) only [u_r]
    · by_cases q : j = 4
      · subst q
        exact ⟨c1, hc1, hc2, by simp (disch := omega) only [u_e, u_n]⟩
      · obtain ⟨c, x1, x2, x3⟩ := hM j hj
        exact ⟨c, x1, x2, by simp (disch := omega) only [u_n]; exact x3⟩
    · exact u_e rfl rfl rfl rfl
  | succ d ih =>
    intro i f M hd hi hM
    obtain ⟨c, x1, x2, x3⟩ := hM (i + 1) (by omega)
    rw [show f + (d + 1) + 1 = (f + d + 1) + 1 by omega, f_X3_dropOldest_9, if_neg (show ¬ (4 : Int32) ≤ nI i from fun z => by have := (nI_leI (a := 4) (b := i) (by omega) (by omega)).mp z; omega)]
    simp (disch := omega) only [s_a1, s_gi, s_gj, s_cl, s_ln_d, s_mu_d, s_lt_d]
    rw [x3]
    simp (disch := omega) only [s_cl]
    rw [s_gd (show c < 7 from x2)]
    obtain ⟨M', y1, y2, y3, y4⟩ := ih (i + 1) f (wk_up M 10 0 0 i (nI c)) (by omega) (by omega) (fun j hj => by
      by_cases q : j = i
      · subst q
        exact ⟨c, x1, x2, u_e rfl rfl rfl rfl⟩
      · obtain ⟨c2, z1, z2, z3⟩ := hM j hj
        exact ⟨c2, z1, z2, by simp (disch := omega) only [u_n]; exact z3⟩)
    exact ⟨M', y1, fun k c i' h1 h2 => (y2 k c i' h1 h2).trans (u_r (by omega)), y3, y4⟩
theorem j_kept {M : wk_T} (h : s_Hs M) (v : Int32) : ∃ M', f_X3_kept v M = some (v, M') ∧ (∀ k c i, k ≠ 9 → k ≠ 10 → M' k c i = M k c i) ∧ s_Hs M' := by
  obtain ⟨⟨hs, h1, h2⟩, h3, h4⟩ := id h
  unfold f_X3_kept
  by_cases q : 0 ≤ v
  · rw [if_pos q, s_mu_d, h2, s_a1]
    simp (disch := omega) only [u_e]
    have hM1 : ∀ j, wk_up M 9 0 0 3 (nI (hs + 1)) 10 0 0 j = M 10 0 0 j := fun j => u_n (by omega)
    by_cases q2 : hs = 4
    · rw [if_neg (show ¬ nI (hs + 1) ≤ 4 from fun z => by have := (nI_leI (a := hs + 1) (b := 4) (by omega) (by omega)).mp z; omega)]
      obtain ⟨c, x1, x2, x3⟩ := h3 0 (by omega)
      obtain ⟨M', y1, y2, y3, y4⟩ := s_dropO x1 x2 (4 - 0) 0 95 (wk_up M 9 0 0 3 (nI (hs + 1))) rfl (by omega) (fun j hj => by rw [hM1]; exact h3 j hj)
      refine ⟨M', ?_, fun k c i h1 h2 => (y2 k c i h1 h2).trans (u_r (by omega)), ⟨4, by omega, y4⟩, y3, ?_⟩
      · unfold f_X3_dropOldest
        rw [s_ln_d, hM1, x3]
        simp (disch := omega) only [s_cl]
        rw [s_gd (show c < 7 from x2), show f_X3_dropOldest_9 wk_fuel c 0 (wk_up M 9 0 0 3 (nI (hs + 1))) = some ((), M') from y1, s_cl_d]
      · rw [y2 11 0 0 (by omega) (by omega), u_n (by omega)]
        exact h4
    · rw [if_pos (show nI (hs + 1) ≤ 4 from (nI_leI (a := hs + 1) (b := 4) (by omega) (by omega)).mpr (by omega))]
      exact ⟨_, rfl, fun k c i h1 h2 => u_r (by omega), ⟨hs + 1, by omega, u_e rfl rfl rfl rfl⟩, fun j hj => by rw [hM1]; exact h3 j hj, by rw [u_n (by omega)]; exact h4⟩
  · rw [if_neg q]
    exact ⟨M, rfl, fun _ _ _ _ _ => rfl, h⟩
theorem s_Hs_c {M M' : wk_T} (h : s_Hs M) (h1 : M' 9 0 0 = M 9 0 0) (h2 : M' 10 0 0 = M 10 0 0) (h3 : M' 11 0 0 = M 11 0 0) : s_Hs M' := by
  unfold s_Hs at h ⊢
  rw [h1, h2, h3]
  exact h
/-- a change through the class: noted, done, kept -/
theorem j_change {L M : wk_T} {n w t T : Nat} {v : Int32} (h : s_S L M n w t T) (hH : s_Hs M) : ∃ M1, f_X3_note M = some ((), M1) ∧ s_S L M1 n w t T ∧ (∀ k i, M1 k 0 i = M k 0 i) ∧ ∀ L2 M2 n' w' t' T', s_c M1 M2 → s_S L2 M2 n' w' t' T' → (∀ k, 14 ≤ k → L2 k 0 0 = M k 0 0) → ∃ M3, f_X3_kept v M2 = some (v, M3) ∧ s_S M3 M3 n' w' t' T' ∧ s_Hs M3 ∧ (∀ k i, k ≠ 9 → k ≠ 10 → M3 k 0 i = M2 k 0 i) := by
  obtain ⟨⟨g1, g2, g3, gT, g4, g5, -⟩, -⟩ := id h
  obtain ⟨M1, x1, x2⟩ := j_note hH g1 g5
  refine ⟨M1, x1, s_S_c h (fun _ _ => rfl) (fun k i _ => x2 k i), x2, fun L2 M2 n' w' t' T' hc hS hL => ?_⟩
  have hH2 : s_Hs M2 := s_Hs_c hH (by rw [hc 9 0 0 (by omega), x2]) (by rw [hc 10 0 0 (by omega), x2]) (by rw [hc 11 0 0 (by omega), x2])
  obtain ⟨M3, y1, y2, y3⟩ := j_kept hH2 v
  refine ⟨M3, y1, s_S_c hS (fun k hk => ?_) (fun k i hk => y2 k 0 i (by omega) (by omega)), y3, fun k i h1 h2 => y2 k 0 i h1 h2⟩
  rw [y2 k 0 0 (by omega) (by omega), hc k 0 0 (by omega), x2, hL k hk]
