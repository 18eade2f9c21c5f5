theorem s_F_c {Rf Tf Rg Tg : Nat → Int32} {lo hi r : Nat} {x : Int32} (h : s_F Rf Tf lo hi r x) (e1 : ∀ j, j < hi → Rf j = Rg j) (e2 : ∀ j, j < hi → Tf j = Tg j) : s_F Rg Tg lo hi r x := by
  rcases h with ⟨h1, h2⟩ | ⟨k, h1, h2, h3, h4, h5⟩
  · exact Or.inl ⟨h1, fun j q1 q2 => by rw [← e1 j q2]; exact h2 j q1 q2⟩
  · refine Or.inr ⟨k, h1, h2, h3, by rw [← e1 k h2]; exact h4, fun j q1 q2 q3 => ?_⟩
    rw [← e1 j q2] at q3
    have := h5 j q1 q2 q3
    rw [e2 j q2, e2 k h2] at this
    exact this
theorem s_firstL {M : wk_T} {r w : Nat} (hr : r < 8) (hw : w ≤ 12) : ∀ (i fuel : Nat) (x : Int32), i ≤ w → i < fuel → s_F (fun k => M 18 0 0 (3 * k)) (fun k => M 18 0 0 (3 * k + 1)) i w r x → ∃ x', f_L_first_9 fuel (nI r) x (nI i - 1) M = some (x', M) ∧ s_F (fun k => M 18 0 0 (3 * k)) (fun k => M 18 0 0 (3 * k + 1)) 0 w r x' := by
  intro i
  induction i with
  | zero =>
    intro fuel x hi hf hx
    obtain ⟨f, rfl⟩ : ∃ f, fuel = f + 1 := ⟨fuel - 1, by omega⟩
    refine ⟨x, ?_, hx⟩
    rw [f_L_first_9, if_pos (by decide)]
  | succ i ih =>
    intro fuel x hi hf hx
    obtain ⟨f, rfl⟩ : ∃ f, fuel = f + 1 := ⟨fuel - 1, by omega⟩
    rw [f_L_first_9, s_p1, if_neg (s_neg (by omega)), s_m3, s_gi (by omega) (by omega), s_cl (by omega)]
    by_cases hm : M 18 0 0 (3 * i) = nI r
    · rw [if_pos hm]
      by_cases hx1 : x < 0
      · rw [if_pos hx1]
        unfold f_L_first_46 f_L_first_52
        rw [s_lt_d, s_m1]
        refine ih f _ (by omega) (by omega) (Or.inr ⟨i, by omega, by omega, rfl, hm, fun j hj1 hj hj2 => ?_⟩)
        rcases hx with ⟨_, h2⟩ | ⟨k, _, hk, hk2, _⟩
        · rcases Nat.lt_or_ge i j with q | q
          · exact absurd hj2 (h2 j (by omega) hj)
          · have : j = i := by omega
            subst this
            exact ⟨by rw [s_lt]; omega, fun q => by omega⟩
        · rw [hk2] at hx1
          exact absurd hx1 (s_neg (by omega))
      · rw [if_neg hx1]
        rcases hx with ⟨h1, _⟩ | ⟨k, h0, hk, hk2, hk3, hk4⟩
        · rw [h1] at hx1
          exact absurd (by decide) hx1
        · rw [hk2, s_m3, s_a1, s_a1, s_gi (by omega) (by omega), s_gi (by omega) (by omega), s_cl (by omega), s_cl (by omega)]
          by_cases hle : M 18 0 0 (3 * k + 1) < M 18 0 0 (3 * i + 1)
          · rw [if_pos hle]
            unfold f_L_first_51 f_L_first_52
            rw [s_lt_d, s_m1]
            refine ih f _ (by omega) (by omega) (Or.inr ⟨k, by omega, hk, rfl, hk3, fun j hj1 hj hj2 => ?_⟩)
            rcases Nat.lt_or_ge i j with q | q
            · exact hk4 j (by omega) hj hj2
            · have : j = i := by omega
              subst this
              have h9 := (s_lt _ _).mp hle
              refine ⟨?_, fun q => hle⟩
              show ¬ M 18 0 0 (3 * j + 1) < M 18 0 0 (3 * k + 1)
              rw [s_lt]
              omega
          · rw [if_neg hle]
            unfold f_L_first_46 f_L_first_52
            rw [s_lt_d, s_m1]
            refine ih f _ (by omega) (by omega) (Or.inr ⟨i, by omega, by omega, rfl, hm, fun j hj1 hj hj2 => ?_⟩)
            rw [s_lt] at hle
            rcases Nat.lt_or_ge i j with q | q
            · have hz := hk4 j (by omega) hj hj2
              have hz1 := hz.1
              show ¬ M 18 0 0 (3 * j + 1) < M 18 0 0 (3 * i + 1) ∧ (j < i → M 18 0 0 (3 * i + 1) < M 18 0 0 (3 * j + 1))
              have hz2 : ¬ M 18 0 0 (3 * j + 1) < M 18 0 0 (3 * k + 1) := hz1
              rw [s_lt] at hz2 ⊢
              exact ⟨by omega, fun q2 => by omega⟩
            · have : j = i := by omega
              subst this
              exact ⟨by rw [s_lt]; omega, fun q => by omega⟩
    · rw [if_neg hm]
      unfold f_L_first_51 f_L_first_52
      rw [s_lt_d, s_m1]
      refine ih f _ (by omega) (by omega) ?_
      rcases hx with ⟨h1, h2⟩ | ⟨k, h0, hk, hk2, hk3, hk4⟩
      · refine Or.inl ⟨h1, fun j hj1 hj => ?_⟩
        rcases Nat.lt_or_ge i j with q | q
        · exact h2 j (by omega) hj
        · have : j = i := by omega
          subst this
          exact hm
      · refine Or.inr ⟨k, by omega, hk, hk2, hk3, fun j hj1 hj hj2 => ?_⟩
        rcases Nat.lt_or_ge i j with q | q
        · exact hk4 j (by omega) hj hj2
        · have : j = i := by omega
          subst this
          exact absurd hj2 hm
theorem s_firstL0 {M : wk_T} {r w : Nat} (hr : r < 8) (hw : w ≤ 12) (h1 : M 14 0 0 1 = nI w) : ∃ x', f_L_first (nI r) M = some (x', M) ∧ s_F (fun k => M 18 0 0 (3 * k)) (fun k => M 18 0 0 (3 * k + 1)) 0 w r x' := by
  unfold f_L_first
  rw [s_lt_d, h1]
  exact s_firstL hr hw w wk_fuel (-1) (Nat.le_refl _) (by show w < 100; omega) (Or.inl ⟨rfl, fun j q1 q2 => by omega⟩)
/-! the law's numbers beside the chip's: a room; its numbers; a room that isn't there yet; all -/
def s_R (L C : wk_T) (i : Nat) : Prop :=
  (L 15 0 0 (8 * i) = C 6 0 i 2 ∧ L 15 0 0 (8 * i + 1) = C 7 0 i 0 ∧ L 15 0 0 (8 * i + 2) = C 7 0 i 1 ∧ L 15 0 0 (8 * i + 3) = C 7 0 i 2 ∧ L 15 0 0 (8 * i + 4) = C 7 0 i 3 ∧ L 15 0 0 (8 * i + 5) = C 7 0 i 4 ∧ L 15 0 0 (8 * i + 6) = C 6 0 i 3 ∧ L 15 0 0 (8 * i + 7) = C 6 0 i 4) ∧
  (L 16 0 0 (8 * i) = C 6 0 i 7 ∧ L 16 0 0 (8 * i + 3) = C 6 0 i 5 ∧ L 16 0 0 (8 * i + 4) = C 6 0 i 6 ∧ L 16 0 0 (8 * i + 5) = C 6 0 i 10 ∧ L 16 0 0 (8 * i + 6) = C 6 0 i 11 ∧ L 16 0 0 (8 * i + 7) = C 6 0 i 12) ∧
  (L 17 0 0 (4 * i) = C 8 0 i 0 ∧ L 17 0 0 (4 * i + 1) = C 8 0 i 1 ∧ L 17 0 0 (4 * i + 2) = C 8 0 i 2 ∧ L 17 0 0 (4 * i + 3) = C 8 0 i 3 ∧ L 17 0 0 (32 + 2 * i) = C 6 0 i 13) ∧
  ((L 16 0 0 (8 * i) = 1 ∨ L 16 0 0 (8 * i) = 3) → L 16 0 0 (8 * i + 1) = C 6 0 i 8) ∧ (L 16 0 0 (8 * i) = 2 → L 16 0 0 (8 * i + 2) = C 6 0 i 9) ∧ (¬ L 16 0 0 (8 * i + 5) ≤ 1 → L 17 0 0 (33 + 2 * i) = C 6 0 i 14)
def s_O (L : wk_T) (i T : Nat) : Prop :=
  (∃ kd, kd < 2 ∧ L 15 0 0 (8 * i) = nI kd ∧ (L 15 0 0 (8 * i + 7) = -1 ∨ L 15 0 0 (8 * i + 7) = nI kd)) ∧ (∃ wt, 1 ≤ wt ∧ wt ≤ 9 ∧ L 15 0 0 (8 * i + 2) = nI wt) ∧ (L 15 0 0 (8 * i + 6) = -1 ∨ ∃ j, j < i ∧ L 15 0 0 (8 * i + 6) = nI j) ∧
  ∃ st, st < 4 ∧ L 16 0 0 (8 * i) = nI st ∧ (∃ bg, bg ≤ T ∧ L 16 0 0 (8 * i + 5) = nI bg) ∧ (∃ wk, wk ≤ T ∧ L 16 0 0 (8 * i + 7) = nI wk ∧ (0 < st → 0 < wk)) ∧ ((st = 1 ∨ st = 3) → ∃ lf, 1 ≤ lf ∧ lf ≤ 9 ∧ L 16 0 0 (8 * i + 1) = nI lf)
def s_Z (L : wk_T) (i : Nat) : Prop := (∀ k, k < 8 → L 16 0 0 (8 * i + k) = 0) ∧ (∀ k, k < 4 → L 17 0 0 (4 * i + k) = 0) ∧ L 17 0 0 (32 + 2 * i) = 0
def s_U (L C : wk_T) (n T k : Nat) : Prop := L 18 0 0 (3 * k) = C 3 0 0 k ∧ L 18 0 0 (3 * k + 1) = C 4 0 0 k ∧ L 18 0 0 (3 * k + 2) = C 5 0 0 k ∧ ∃ r tm ln, r < n ∧ tm ≤ T + 25 ∧ 1 ≤ ln ∧ ln ≤ 9 ∧ L 18 0 0 (3 * k) = nI r ∧ L 18 0 0 (3 * k + 1) = nI tm ∧ L 18 0 0 (3 * k + 2) = nI ln
def s_G (L C : wk_T) (n w t T : Nat) : Prop := n ≤ 8 ∧ w ≤ 12 ∧ t ≤ T ∧ T ≤ 1000000 ∧ L 14 0 0 0 = nI n ∧ C 0 0 0 1 = nI n ∧ L 14 0 0 1 = nI w ∧ C 0 0 0 6 = nI w ∧ L 14 0 0 2 = nI t ∧ C 0 0 0 7 = nI t ∧ L 14 0 0 3 = C 2 0 0 0 ∧ L 14 0 0 4 = C 2 0 0 1
def s_S (L C : wk_T) (n w t T : Nat) : Prop := s_G L C n w t T ∧ (∀ i, i < n → s_R L C i ∧ s_O L i T) ∧ (∀ i, n ≤ i → i < 8 → s_Z L i) ∧ ∀ k, k < w → s_U L C n T k
/-! joint rows -/
theorem j_first {L C : wk_T} {n w t T r : Nat} (h : s_S L C n w t T) (hr : r < n) : ∃ x, f_L_first (nI r) L = some (x, L) ∧ f_X0_firstUseOf 0 (nI r) C = some (x, C) ∧ s_F (fun k => L 18 0 0 (3 * k)) (fun k => L 18 0 0 (3 * k + 1)) 0 w r x := by
  obtain ⟨⟨g1, g2, g3, gT, g4, g5, g6, g7, g8, g9, g10, g11⟩, hR, hZ, hU⟩ := h
  obtain ⟨x, e1, e2⟩ := s_firstL0 (r := r) (by omega) g2 g6
  obtain ⟨x', e3, e4⟩ := s_firstC0 (r := r) (by omega) g2 g7
  have e5 := s_F_c e2 (Rg := C 3 0 0) (Tg := C 4 0 0) (fun j hj => (hU j hj).1) (fun j hj => (hU j hj).2.1)
  have e6 := s_F_one e4 e5
  subst e6
  exact ⟨x', e1, e3, e2⟩
theorem s_sub {a b : Nat} (ha : a < 1073741824) (hb : b < 1073741824) : (nI a - nI b).toInt = (a : Int) - b := pk_sub_toInt ha hb
/-- the law's due, at an advance of v ticks -/
theorem j_due {L C : wk_T} {n w t T r v : Nat} (h : s_S L C n w t T) (hr : r < n) (hv : v ≤ 9) : ∃ x, f_L_first (nI r) L = some (x, L) ∧ f_X0_firstUseOf 0 (nI r) C = some (x, C) ∧ ((x = -1 ∧ f_L_due (nI r) (nI v) L = some (0, L)) ∨ ∃ k tm ln, k < w ∧ tm ≤ T + 25 ∧ 1 ≤ ln ∧ ln ≤ 9 ∧ x = nI k ∧ L 18 0 0 (3 * k) = nI r ∧ L 18 0 0 (3 * k + 1) = nI tm ∧ L 18 0 0 (3 * k + 2) = nI ln ∧ C 4 0 0 k = nI tm ∧ C 5 0 0 k = nI ln ∧ f_L_due (nI r) (nI v) L = some (if t + v < tm then 0 else 1, L)) := by
  obtain ⟨x, e1, e2, e3⟩ := j_first h hr
  obtain ⟨⟨g1, g2, g3, gT, g4, g5, g6, g7, g8, g9, g10, g11⟩, hR, hZ, hU⟩ := h
  refine ⟨x, e1, e2, ?_⟩
  rcases e3 with ⟨h1, h2⟩ | ⟨k, h1, h2, h3, h4, h5⟩
  · refine Or.inl ⟨h1, ?_⟩
    unfold f_L_due
    rw [e1, s_cl_d, if_pos (by rw [h1]; decide)]
  · obtain ⟨u1, u2, u3, r', tm, ln, u4, u5, u6, u7, u8, u9, u10⟩ := hU k h2
    refine Or.inr ⟨k, tm, ln, h2, u5, u6, u7, h3, h4, u9, u10, by rw [← u2]; exact u9, by rw [← u3]; exact u10, ?_⟩
    unfold f_L_due
    rw [e1, s_cl_d, h3, if_neg (s_neg (by omega)), s_m3, s_a1, s_gi (by omega) (by omega), s_cl (by omega), u9, g8]
    have h9 : (nI t < nI tm - nI v) = (t + v < tm) := by
      rw [s_lt, s_sub (by omega) (by omega), s_ti (by omega)]
      exact propext ⟨fun q => by omega, fun q => by omega⟩
    by_cases hq : t + v < tm
    · rw [if_pos (by rw [h9]; exact hq), if_pos hq]
    · rw [if_neg (by rw [h9]; exact hq), if_neg hq]
