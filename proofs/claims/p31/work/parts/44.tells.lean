/-! what the class tells, beside the law's rows -/
theorem s_clid (f : Option (Int32 × wk_T)) : wk_cl f (fun r M1 => some (r, M1)) = f := by
  rcases f with _ | ⟨r, M1⟩ <;> rfl
/-- how many of the first uses are of a room -/
def s_uc (M : wk_T) (r : Int32) : Nat → Nat
  | 0 => 0
  | k + 1 => s_uc M r k + if M 18 0 0 (3 * k) = r then 1 else 0
theorem s_uc_le {M : wk_T} {r : Int32} : ∀ k, s_uc M r k ≤ k := by
  intro k
  induction k with
  | zero => exact Nat.le_refl _
  | succ k ih =>
    rw [s_uc]
    split <;> omega
theorem s_usesOf {L C : wk_T} {n w t T r : Nat} (h : s_S L C n w t T) : f_X0_usesOf 0 (nI r) C = some (nI (s_uc L (nI r) w), C) := by
  obtain ⟨⟨g1, g2, g3, gT, g4, g5, g6, g7, -⟩, -, -, hU⟩ := id h
  have key : ∀ d i f, w - i = d → i ≤ w → f_X0_usesOf_4 0 (f + d + 1) (nI r) (nI (s_uc L (nI r) i)) (nI i) C = some (nI (s_uc L (nI r) w), C) := by
    intro d
    induction d with
    | zero =>
      intro i f hd hi
      have hin : i = w := by omega
      subst hin
      rw [f_X0_usesOf_4, g7, if_pos (show nI i ≤ nI i from Int32.le_refl _)]
    | succ d ih =>
      intro i f hd hi
      have u1 := (hU i (by omega)).1
      rw [show f + (d + 1) + 1 = (f + d + 1) + 1 by omega, f_X0_usesOf_4, g7, if_neg (show ¬ nI w ≤ nI i by rw [s_leI (by omega) (by omega)]; omega)]
      unfold f_X0_usesOf_25
      simp (disch := omega) only [s_gi, s_gj, s_cl, s_lt_d, s_a1]
      rw [← u1]
      have e := ih (i + 1) f (by omega) (by omega)
      have hs : s_uc L (nI r) (i + 1) = s_uc L (nI r) i + if L 18 0 0 (3 * i) = nI r then 1 else 0 := rfl
      rw [hs] at e
      by_cases q : L 18 0 0 (3 * i) = nI r
      · rw [if_pos q] at e ⊢
        exact e
      · rw [if_neg q] at e ⊢
        exact e
  unfold f_X0_usesOf
  have e := key (w - 0) 0 (99 - (w - 0)) rfl (by omega)
  rw [show (99 - (w - 0)) + (w - 0) + 1 = wk_fuel by show _ = 100; omega] at e
  exact e
theorem q_room {L C : wk_T} {n w t T r k : Nat} (h : s_S L C n w t T) (hr : r < n) (hk : k ≤ 13) (h8 : k ≠ 8) (h12 : k ≠ 12) : f_X3_roomOf (nI r) (nI k) C = f_X2_tell 0 r (nI k) C := by
  obtain ⟨⟨g1, g2, g3, gT, g4, g5, -⟩, -⟩ := id h
  unfold f_X3_roomOf
  rw [s_hasRoom g5 hr g1, s_cl_d, if_neg (show ¬ (1 : Int32) = 0 by decide), show f_X3_outside (nI k) 0 13 C = some (0, C) from s_inN (lo := 0) (hi := 13) (by omega) (by omega) (by omega), s_cl_d, if_pos rfl, if_neg (show ¬ nI k = 8 from fun z => h8 ((nI_eq (b := 8) (by omega) (by omega)).mp z)), if_neg (show ¬ nI k = 12 from fun z => h12 ((nI_eq (b := 12) (by omega) (by omega)).mp z))]
  simp (disch := omega) only [s_gi, s_gj, s_cl]
  exact s_clid _
theorem q_tell {L C : wk_T} {n w t T r : Nat} (h : s_S L C n w t T) (hr : r < n) :
    f_X3_roomOf (nI r) 0 C = some (L 15 0 0 (8 * r), C) ∧ f_X3_roomOf (nI r) 1 C = some (L 16 0 0 (8 * r), C) ∧
    f_X3_roomOf (nI r) 2 C = some (if L 15 0 0 (8 * r + 6) = -1 then -4 else L 15 0 0 (8 * r + 6), C) ∧ f_X3_roomOf (nI r) 3 C = some (if L 15 0 0 (8 * r + 7) = -1 then -4 else L 15 0 0 (8 * r + 7), C) ∧
    (∀ st, L 16 0 0 (8 * r) = nI st → st < 4 → f_X3_roomOf (nI r) 4 C = some (if st % 2 = 1 then L 16 0 0 (8 * r + 1) else 0, C)) ∧ f_X3_roomOf (nI r) 5 C = some (if L 16 0 0 (8 * r) = 2 then L 16 0 0 (8 * r + 2) else 0, C) ∧
    f_X3_roomOf (nI r) 6 C = some (L 16 0 0 (8 * r + 3), C) ∧ f_X3_roomOf (nI r) 7 C = some (L 16 0 0 (8 * r + 4), C) ∧ f_X3_roomOf (nI r) 8 C = some (nI (s_uc L (nI r) w), C) ∧
    f_X3_roomOf (nI r) 9 C = some (L 16 0 0 (8 * r + 5), C) ∧ f_X3_roomOf (nI r) 10 C = some (L 16 0 0 (8 * r + 6), C) ∧ f_X3_roomOf (nI r) 11 C = some (L 16 0 0 (8 * r + 7), C) ∧
    (∀ z : Int32, (z = 0 ∨ z = 1) → f_X0_isCalled 0 (nI r) C = some (z, C) → f_X3_roomOf (nI r) 12 C = some (z, C)) ∧
    f_X3_roomOf (nI r) 13 C = some (if 2 ≤ L 16 0 0 (8 * r + 5) then L 17 0 0 (33 + 2 * r) else -4, C) ∧ f_X3_roomOf (nI r) 14 C = some (-1, C) := by
  obtain ⟨⟨g1, g2, g3, gT, g4, g5, -⟩, hR, -⟩ := id h
  obtain ⟨⟨⟨a0, a1, a2, a3, a4, a5, a6, a7⟩, ⟨b0, b3, b4, b5, b6, b7⟩, ⟨e0, e1, e2, e3, e4⟩, c1, c2, c3⟩, ⟨kd, kd1, kd2, kd3⟩, ⟨wt, wt1, wt2, wt3⟩, nd, st, st1, st2, ⟨bg, bg1, bg2⟩, -⟩ := hR r hr
  have tl : ∀ k, k ≤ 13 → k ≠ 8 → k ≠ 12 → f_X3_roomOf (nI r) (nI k) C = f_X2_tell 0 r (nI k) C := fun k h1 h2 h3 => q_room h hr h1 h2 h3
  have b : ∀ x y : Nat, x < 14 → y < 14 → ((nI x = nI y) = (x = y)) := fun x y hx hy => s_eqI (by omega) (by omega)
  have bn : ∀ x y : Nat, x < 14 → y < 14 → x ≠ y → ¬ nI x = nI y := fun x y hx hy hxy => by rw [b x y hx hy]; exact hxy
  refine ⟨?_, ?_, ?_, ?_, fun s hs hs4 => ?_, ?_, ?_, ?_, ?_, ?_, ?_, ?_, fun z hz hz2 => ?_, ?_, ?_⟩
  · refine (tl 0 (by omega) (by omega) (by omega)).trans ?_
    unfold f_X2_tell
    rw [if_pos (show nI 0 = 0 from rfl), a0]
  · refine (tl 1 (by omega) (by omega) (by omega)).trans ?_
    unfold f_X2_tell
    rw [if_neg (show ¬ nI 1 = 0 by decide), if_pos (show nI 1 = 1 from rfl), b0]
  · refine (tl 2 (by omega) (by omega) (by omega)).trans ?_
    unfold f_X2_tell
    rw [if_neg (show ¬ nI 2 = 0 by decide), if_neg (show ¬ nI 2 = 1 by decide), if_pos (show nI 2 = 2 from rfl), a6]
    by_cases q : C 6 0 r 3 = -1
    · rw [if_pos q, if_pos q]
    · rw [if_neg q, if_neg q]
  · refine (tl 3 (by omega) (by omega) (by omega)).trans ?_
    unfold f_X2_tell
    rw [if_neg (show ¬ nI 3 = 0 by decide), if_neg (show ¬ nI 3 = 1 by decide), if_neg (show ¬ nI 3 = 2 by decide), if_pos (show nI 3 = 3 from rfl), a7]
    by_cases q : C 6 0 r 4 = -1
    · rw [if_pos q, if_pos q]
    · rw [if_neg q, if_neg q]
  · refine (tl 4 (by omega) (by omega) (by omega)).trans ?_
    unfold f_X2_tell f_X2_tell_126
    rw [if_neg (show ¬ nI 4 = 0 by decide), if_neg (show ¬ nI 4 = 1 by decide), if_neg (show ¬ nI 4 = 2 by decide), if_neg (show ¬ nI 4 = 3 by decide), if_pos (show nI 4 = 4 from rfl), ← b0, hs]
    rcases (show s = 0 ∨ s = 1 ∨ s = 2 ∨ s = 3 by omega) with rfl | rfl | rfl | rfl
    · rw [if_neg (show ¬ nI 0 = 1 by decide), if_neg (show ¬ nI 0 = 3 by decide), if_neg (show ¬ 0 % 2 = 1 by decide)]
    · rw [if_pos (show nI 1 = 1 from rfl), if_pos (show 1 % 2 = 1 from rfl), c1 (Or.inl hs)]
    · rw [if_neg (show ¬ nI 2 = 1 by decide), if_neg (show ¬ nI 2 = 3 by decide), if_neg (show ¬ 2 % 2 = 1 by decide)]
    · rw [if_neg (show ¬ nI 3 = 1 by decide), if_pos (show nI 3 = 3 from rfl), if_pos (show 3 % 2 = 1 from rfl), c1 (Or.inr hs)]
  · refine (tl 5 (by omega) (by omega) (by omega)).trans ?_
    unfold f_X2_tell
    rw [if_neg (show ¬ nI 5 = 0 by decide), if_neg (show ¬ nI 5 = 1 by decide), if_neg (show ¬ nI 5 = 2 by decide), if_neg (show ¬ nI 5 = 3 by decide), if_neg (show ¬ nI 5 = 4 by decide), if_pos (show nI 5 = 5 from rfl), ← b0]
    by_cases q : L 16 0 0 (8 * r) = 2
    · rw [if_pos q, if_pos q, c2 q]
    · rw [if_neg q, if_neg q]
  · refine (tl 6 (by omega) (by omega) (by omega)).trans ?_
    unfold f_X2_tell
    rw [if_neg (show ¬ nI 6 = 0 by decide), if_neg (show ¬ nI 6 = 1 by decide), if_neg (show ¬ nI 6 = 2 by decide), if_neg (show ¬ nI 6 = 3 by decide), if_neg (show ¬ nI 6 = 4 by decide), if_neg (show ¬ nI 6 = 5 by decide), if_pos (show nI 6 = 6 from rfl), b3]
  · refine (tl 7 (by omega) (by omega) (by omega)).trans ?_
    unfold f_X2_tell
    rw [if_neg (show ¬ nI 7 = 0 by decide), if_neg (show ¬ nI 7 = 1 by decide), if_neg (show ¬ nI 7 = 2 by decide), if_neg (show ¬ nI 7 = 3 by decide), if_neg (show ¬ nI 7 = 4 by decide), if_neg (show ¬ nI 7 = 5 by decide), if_neg (show ¬ nI 7 = 6 by decide), if_pos (show nI 7 = 7 from rfl), b4]
  · unfold f_X3_roomOf
    rw [s_hasRoom g5 hr g1, s_cl_d, if_neg (show ¬ (1 : Int32) = 0 by decide), show f_X3_outside 8 0 13 C = some (0, C) from s_inN (lo := 0) (a := 8) (hi := 13) (by omega) (by omega) (by omega), s_cl_d, if_pos rfl, if_pos rfl, s_usesOf h, s_cl_d]
  · refine (tl 9 (by omega) (by omega) (by omega)).trans ?_
    unfold f_X2_tell
    rw [if_neg (show ¬ nI 9 = 0 by decide), if_neg (show ¬ nI 9 = 1 by decide), if_neg (show ¬ nI 9 = 2 by decide), if_neg (show ¬ nI 9 = 3 by decide), if_neg (show ¬ nI 9 = 4 by decide), if_neg (show ¬ nI 9 = 5 by decide), if_neg (show ¬ nI 9 = 6 by decide), if_neg (show ¬ nI 9 = 7 by decide), if_neg (show ¬ nI 9 = 8 by decide), if_pos (show nI 9 = 9 from rfl), b5]
  · refine (tl 10 (by omega) (by omega) (by omega)).trans ?_
    unfold f_X2_tell
    rw [if_neg (show ¬ nI 10 = 0 by decide), if_neg (show ¬ nI 10 = 1 by decide), if_neg (show ¬ nI 10 = 2 by decide), if_neg (show ¬ nI 10 = 3 by decide), if_neg (show ¬ nI 10 = 4 by decide), if_neg (show ¬ nI 10 = 5 by decide), if_neg (show ¬ nI 10 = 6 by decide), if_neg (show ¬ nI 10 = 7 by decide), if_neg (show ¬ nI 10 = 8 by decide), if_neg (show ¬ nI 10 = 9 by decide), if_pos (show nI 10 = 10 from rfl), b6]
  · refine (tl 11 (by omega) (by omega) (by omega)).trans ?_
    unfold f_X2_tell
    rw [if_neg (show ¬ nI 11 = 0 by decide), if_neg (show ¬ nI 11 = 1 by decide), if_neg (show ¬ nI 11 = 2 by decide), if_neg (show ¬ nI 11 = 3 by decide), if_neg (show ¬ nI 11 = 4 by decide), if_neg (show ¬ nI 11 = 5 by decide), if_neg (show ¬ nI 11 = 6 by decide), if_neg (show ¬ nI 11 = 7 by decide), if_neg (show ¬ nI 11 = 8 by decide), if_neg (show ¬ nI 11 = 9 by decide), if_neg (show ¬ nI 11 = 10 by decide), if_pos (show nI 11 = 11 from rfl), b7]
  · unfold f_X3_roomOf
    rw [s_hasRoom g5 hr g1, s_cl_d, if_neg (show ¬ (1 : Int32) = 0 by decide), show f_X3_outside 12 0 13 C = some (0, C) from s_inN (lo := 0) (a := 12) (hi := 13) (by omega) (by omega) (by omega), s_cl_d, if_pos rfl, if_neg (show ¬ (12 : Int32) = 8 by decide), if_pos rfl, hz2, s_cl_d]
    rcases hz with rfl | rfl
    · rw [if_pos rfl]
    · rw [if_neg (show ¬ (1 : Int32) = 0 by decide)]
  · refine (tl 13 (by omega) (by omega) (by omega)).trans ?_
    unfold f_X2_tell
    rw [if_neg (show ¬ nI 13 = 0 by decide), if_neg (show ¬ nI 13 = 1 by decide), if_neg (show ¬ nI 13 = 2 by decide), if_neg (show ¬ nI 13 = 3 by decide), if_neg (show ¬ nI 13 = 4 by decide), if_neg (show ¬ nI 13 = 5 by decide), if_neg (show ¬ nI 13 = 6 by decide), if_neg (show ¬ nI 13 = 7 by decide), if_neg (show ¬ nI 13 = 8 by decide), if_neg (show ¬ nI 13 = 9 by decide), if_neg (show ¬ nI 13 = 10 by decide), if_neg (show ¬ nI 13 = 11 by decide), ← b5]
    by_cases q : 2 ≤ L 16 0 0 (8 * r + 5)
    · rw [if_pos q, if_pos q, c3 (fun z => absurd (Int32.le_trans q z) (by decide))]
    · rw [if_neg q, if_neg q]
  · unfold f_X3_roomOf
    rw [s_hasRoom g5 hr g1, s_cl_d, if_neg (show ¬ (1 : Int32) = 0 by decide)]
    have e : f_X3_outside 14 0 13 C = some (1, C) := by
      unfold f_X3_outside
      rw [if_neg (show ¬ (14 : Int32) < 0 by decide), if_neg (show ¬ (14 : Int32) ≤ 13 by decide)]
    rw [e, s_cl_d, if_neg (show ¬ (1 : Int32) = 0 by decide)]
theorem q_cost {L C : wk_T} {n w t T r k : Nat} (h : s_S L C n w t T) (hr : r < n) (hk : k < 5) : f_X3_costOf (nI r) (nI k) C = some (L 15 0 0 (8 * r + 1 + k), C) := by
  obtain ⟨⟨g1, g2, g3, gT, g4, g5, -⟩, hR, -⟩ := id h
  obtain ⟨⟨⟨a0, a1, a2, a3, a4, a5, a6, a7⟩, -⟩, -⟩ := hR r hr
  unfold f_X3_costOf
  rw [s_hasRoom g5 hr g1, s_cl_d, if_neg (show ¬ (1 : Int32) = 0 by decide), show f_X3_outside (nI k) 0 4 C = some (0, C) from s_inN (lo := 0) (hi := 4) (by omega) (by omega) (by omega), s_cl_d, if_pos rfl]
  simp (disch := omega) only [s_gi, s_gj, s_cl]
  rcases (show k = 0 ∨ k = 1 ∨ k = 2 ∨ k = 3 ∨ k = 4 by omega) with rfl | rfl | rfl | rfl | rfl
  · rw [show 8 * r + 1 + 0 = 8 * r + 1 from rfl, a1]
  · rw [show 8 * r + 1 + 1 = 8 * r + 2 from rfl, a2]
  · rw [show 8 * r + 1 + 2 = 8 * r + 3 from rfl, a3]
  · rw [show 8 * r + 1 + 3 = 8 * r + 4 from rfl, a4]
  · rw [show 8 * r + 1 + 4 = 8 * r + 5 from rfl, a5]
theorem q_energy {L C : wk_T} {n w t T r k : Nat} (h : s_S L C n w t T) (hr : r < n) (hk : k < 4) : f_X3_energy (nI r) (nI k) C = some (L 17 0 0 (4 * r + k), C) := by
  obtain ⟨⟨g1, g2, g3, gT, g4, g5, -⟩, hR, -⟩ := id h
  obtain ⟨⟨-, -, ⟨e0, e1, e2, e3, e4⟩, -⟩, -⟩ := hR r hr
  unfold f_X3_energy
  rw [s_hasRoom g5 hr g1, s_cl_d, if_neg (show ¬ (1 : Int32) = 0 by decide), show f_X3_outside (nI k) 0 4 C = some (0, C) from s_inN (lo := 0) (hi := 4) (by omega) (by omega) (by omega), s_cl_d, if_pos rfl, if_neg (show ¬ nI k = 4 from fun z => absurd ((nI_eq (b := 4) (by omega) (by omega)).mp z) (by omega))]
  simp (disch := omega) only [s_gi, s_gj, s_cl]
  rcases (show k = 0 ∨ k = 1 ∨ k = 2 ∨ k = 3 by omega) with rfl | rfl | rfl | rfl
  · rw [show 4 * r + 0 = 4 * r from rfl, e0]
  · rw [e1]
  · rw [e2]
  · rw [e3]
theorem q_energy4 {L C : wk_T} {n w t T r : Nat} (h : s_S L C n w t T) (hr : r < n) : f_X3_energy (nI r) 4 C = some (L 17 0 0 (4 * r) + L 17 0 0 (4 * r + 1) + L 17 0 0 (4 * r + 2) + L 17 0 0 (4 * r + 3), C) ∧ f_X3_energy (nI r) 5 C = some (-1, C) ∧ f_X3_costOf (nI r) 5 C = some (-1, C) := by
  obtain ⟨⟨g1, g2, g3, gT, g4, g5, -⟩, hR, -⟩ := id h
  obtain ⟨⟨-, -, ⟨e0, e1, e2, e3, e4⟩, -⟩, -⟩ := hR r hr
  have e : f_X3_outside 5 0 4 C = some (1, C) := by
    unfold f_X3_outside
    rw [if_neg (show ¬ (5 : Int32) < 0 by decide), if_neg (show ¬ (5 : Int32) ≤ 4 by decide)]
  refine ⟨?_, ?_, ?_⟩
  · unfold f_X3_energy f_X2_paidInAll
    rw [s_hasRoom g5 hr g1, s_cl_d, if_neg (show ¬ (1 : Int32) = 0 by decide), show f_X3_outside 4 0 4 C = some (0, C) from s_inN (lo := 0) (a := 4) (hi := 4) (by omega) (by omega) (by omega), s_cl_d, if_pos rfl]
    simp (disch := omega) only [s_gi, s_gj, s_cl, s_cl_d]
    rw [if_pos trivial, e0, e1, e2, e3]
  · unfold f_X3_energy
    rw [s_hasRoom g5 hr g1, s_cl_d, if_neg (show ¬ (1 : Int32) = 0 by decide), e, s_cl_d, if_neg (show ¬ (1 : Int32) = 0 by decide)]
  · unfold f_X3_costOf
    rw [s_hasRoom g5 hr g1, s_cl_d, if_neg (show ¬ (1 : Int32) = 0 by decide), e, s_cl_d, if_neg (show ¬ (1 : Int32) = 0 by decide)]
