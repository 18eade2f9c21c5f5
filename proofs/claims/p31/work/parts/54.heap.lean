section WP54
variable {s : State} {H : Heap} {D : va_G} {y : Nat → ClassId}
def wk_ba (o c : Nat) : Nat := if c ≤ 1 then o + 1 + 30 * c else o + 2 + 30 * c
/-- where each cell is, from the class's object at o on -/
def wk_bb (o : Nat) : Nat → Nat → Nat → Nat := fun k c i => if k ≤ 8 then wk_ba o c + k + 3 * i else if k = 9 then o else if k = 10 then o + 61 else o + 201 + k
def wk_Lk0 : Nat → Nat → Nat → Prop := fun k c i => (k ≤ 5 ∧ c < 7 ∧ i = 0) ∨ (6 ≤ k ∧ k ≤ 8 ∧ c < 7 ∧ i < 8) ∨ (9 ≤ k ∧ k ≤ 11 ∧ c = 0 ∧ i = 0) ∨ (14 ≤ k ∧ k ≤ 18 ∧ c = 0 ∧ i = 0)
/-- the first memory -/
def wk_M0 : wk_T := fun k _ _ => if k = 2 then wk_l2 else if k = 10 then fun j => nI (j + 2) else fun _ => 0
theorem wk_L0 : wk_L wk_Lk0 := ⟨fun k c h1 h2 => Or.inl ⟨h1, h2, rfl⟩, fun k c i h1 h2 h3 h4 => Or.inr (Or.inl ⟨h1, h2, h3, h4⟩), fun k h1 h2 => Or.inr (Or.inr (Or.inl ⟨h1, h2, rfl, rfl⟩)), fun k h1 h2 => Or.inr (Or.inr (Or.inr ⟨h1, h2, rfl, rfl⟩))⟩
theorem wk_19n : ∀ c i, ¬ wk_Lk0 19 c i := by
  intro c i h
  unfold wk_Lk0 at h
  omega
theorem wk_I0 {o : Nat} : wk_I (wk_bb o) wk_Lk0 := by
  intro k c i k' c' i' h h' hz
  unfold wk_Lk0 at h h'
  unfold wk_bb wk_ba at hz
  by_cases a1 : k ≤ 8
  · rw [if_pos a1] at hz
    by_cases a2 : k' ≤ 8
    · rw [if_pos a2] at hz
      split at hz <;> split at hz <;> omega
    · rw [if_neg a2] at hz
      split at hz <;> split at hz <;> (try split at hz) <;> omega
  · rw [if_neg a1] at hz
    by_cases a2 : k' ≤ 8
    · rw [if_pos a2] at hz
      split at hz <;> split at hz <;> (try split at hz) <;> omega
    · rw [if_neg a2] at hz
      split at hz <;> split at hz <;> (try split at hz) <;> (try split at hz) <;> omega
theorem wk_A0 {o : Nat} : ∀ q, wk_A (wk_bb o) wk_Lk0 q → o ≤ q := by
  intro q h
  obtain ⟨k, c, i, -, rfl⟩ := h
  unfold wk_bb wk_ba
  split
  · split <;> omega
  · split
    · omega
    · split <;> omega
theorem wk_rfe {cA : ClassId} {n : Nat} {f g : Nat → Option Nat} (h : ∀ j, j < n → f j = g j) : vp_cell cA (n, .inr (.inr (.inr (.inr f)))) = vp_cell cA (n, .inr (.inr (.inr (.inr g)))) := by
  rw [vp_cell_q, vp_cell_q]
  unfold arrV
  congr 2
  funext j
  exact congrArg va_rf (h j.val j.isLt)
theorem wk_cf_H {o c : Nat} (hf : wk_cf D y (wk_ba o c) 8 wk_l2 H) {k i : Nat} (h : (k ≤ 5 ∧ i = 0) ∨ (6 ≤ k ∧ k ≤ 8 ∧ i < 8)) : va_at D vwCl (wk_bb o k c i, wk_cel y (wk_bb o) (wk_M0 k c i) k c i) H := by
  obtain ⟨f0, f1, f2, f3, f4, f5, f6⟩ := hf
  have eB : ∀ k i, k ≤ 8 → wk_bb o k c i = wk_ba o c + k + 3 * i := fun k i hk => if_pos hk
  rcases h with ⟨hk, rfl⟩ | ⟨hk1, hk2, hi⟩
  · rcases (show k = 0 ∨ k = 1 ∨ k = 2 ∨ k = 3 ∨ k = 4 ∨ k = 5 by omega) with rfl | rfl | rfl | rfl | rfl | rfl
    · rw [wk_c0, eB 0 0 (by decide), eB 1 0 (by decide), eB 2 0 (by decide), eB 3 0 (by decide), eB 4 0 (by decide), eB 5 0 (by decide)]
      exact f0
    · rw [wk_c1, eB 1 0 (by decide)]
      show H[wk_ba o c + 1]? = some (vp_cell _ _)
      refine Eq.trans (show H[wk_ba o c + 1]? = some (vp_cell _ _) from f1) (congrArg some (wk_rfe (fun j hj => ?_)))
      rw [eB 6 j (by decide)]
      exact if_pos hj
    · rw [wk_c2, eB 2 0 (by decide)]
      exact f2
    · rw [wk_c3, eB 3 0 (by decide)]
      exact f3
    · rw [wk_c4, eB 4 0 (by decide)]
      exact f4
    · rw [wk_c5, eB 5 0 (by decide)]
      exact f5
  · obtain ⟨r0, r1_, r2_⟩ := f6 i hi
    have t1 : wk_ba o c + 6 + 3 * i + 1 = wk_ba o c + 7 + 3 * i := by omega
    have t2 : wk_ba o c + 6 + 3 * i + 2 = wk_ba o c + 8 + 3 * i := by omega
    rw [t1, t2] at r0
    rw [t1] at r1_
    rw [t2] at r2_
    rcases (show k = 6 ∨ k = 7 ∨ k = 8 by omega) with rfl | rfl | rfl
    · rw [wk_c6, eB 6 i (by decide), eB 7 i (by decide), eB 8 i (by decide)]
      exact r0
    · rw [wk_c7, eB 7 i (by decide)]
      exact r1_
    · rw [wk_c8, eB 8 i (by decide)]
      exact r2_
theorem wk_H_0 {o : Nat} (hf : wk_hf D y o 5 (.ref (o + 212)) H) (ho : va_at D vwCl (o + 212, .inr (1, wk_ob (.ref (o + 213)) (.ref (o + 214)))) H) (e14 : va_at D vwCl (o + 215, .inl (y 0, 5, .inl (fun _ => 0))) H) (e15 : va_at D vwCl (o + 216, .inl (y 0, 64, .inl (fun _ => 0))) H) (e16 : va_at D vwCl (o + 217, .inl (y 0, 64, .inl (fun _ => 0))) H) (e17 : va_at D vwCl (o + 218, .inl (y 0, 48, .inl (fun _ => 0))) H) (e18 : va_at D vwCl (o + 219, .inl (y 0, 36, .inl (fun _ => 0))) H) : wk_H D y (wk_bb o) wk_Lk0 wk_M0 H := by
  obtain ⟨f0, f1, f2, f3, f4⟩ := hf
  have cf : ∀ c, c < 7 → wk_cf D y (wk_ba o c) 8 wk_l2 H := by
    intro c hc
    rcases (show c = 0 ∨ c = 1 ∨ 2 ≤ c by omega) with rfl | rfl | h2
    · exact f1
    · exact f2
    · have h9 := f4 (c - 2) (by omega)
      rw [show o + 62 + 30 * (c - 2) = wk_ba o c by unfold wk_ba; rw [if_neg (by omega)]; omega] at h9
      exact h9
  intro k c i h
  rcases h with ⟨h1, h2, h3⟩ | ⟨h1, h2, h3, h4⟩ | ⟨h1, h2, rfl, rfl⟩ | ⟨h1, h2, rfl, rfl⟩
  · exact wk_cf_H (cf c h2) (Or.inl ⟨h1, h3⟩)
  · exact wk_cf_H (cf c h3) (Or.inr ⟨h1, h2, h4⟩)
  · rcases (show k = 9 ∨ k = 10 ∨ k = 11 by omega) with rfl | rfl | rfl
    · exact f0
    · rw [wk_c10]
      show H[o + 61]? = some (vp_cell _ _)
      refine Eq.trans (show H[o + 61]? = some (vp_cell _ _) from f3) (congrArg some (wk_rfe (fun j hj => ?_)))
      show wk_hr o 5 j = some (wk_bb o 0 (nI (j + 2)).toNatClampNeg 0)
      rw [nI_clamp (show j + 2 < 2147483648 by omega)]
      unfold wk_hr wk_bb wk_ba
      rw [if_pos hj, if_pos (by omega), if_neg (by omega)]
      congr 1
      omega
    · exact ho
  · rcases (show k = 14 ∨ k = 15 ∨ k = 16 ∨ k = 17 ∨ k = 18 by omega) with rfl | rfl | rfl | rfl | rfl
    · exact e14
    · exact e15
    · exact e16
    · exact e17
    · exact e18
theorem wk_law0 {xs : Nat → Int32} {Lx : Nat} : ∃ MM, f_L_law xs Lx wk_M0 = some (1, MM) := by
  refine q_law ⟨⟨0, by omega, rfl⟩, fun j hj => ⟨j + 2, by omega, by omega, rfl⟩, rfl⟩ (fun _ _ => rfl) (fun _ _ => rfl) (fun _ _ => rfl) rfl rfl rfl ?_ ?_
  · show wk_l2 0 = 2
    exact wk_l2_0
  · show wk_l2 1 = 2
    exact wk_l2_1
end WP54
