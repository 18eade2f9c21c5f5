/-! numbers -/
theorem s_lt (a b : Int32) : a < b ↔ a.toInt < b.toInt := Int32.lt_iff_toInt_lt
theorem s_le (a b : Int32) : a ≤ b ↔ a.toInt ≤ b.toInt := Int32.le_iff_toInt_le
theorem s_eq (a b : Int32) : a = b ↔ a.toInt = b.toInt := Int32.toInt_inj.symm
theorem s_m2 (a : Nat) : (2 : Int32) * nI a = nI (2 * a) := pk_mul 2 a
theorem s_m3 (a : Nat) : (3 : Int32) * nI a = nI (3 * a) := pk_mul 3 a
theorem s_m4 (a : Nat) : (4 : Int32) * nI a = nI (4 * a) := pk_mul 4 a
theorem s_m8 (a : Nat) : (8 : Int32) * nI a = nI (8 * a) := pk_mul 8 a
theorem s_a1 (a : Nat) : nI a + 1 = nI (a + 1) := nI_add a 1
theorem s_a2 (a : Nat) : nI a + 2 = nI (a + 2) := nI_add a 2
theorem s_a3 (a : Nat) : nI a + 3 = nI (a + 3) := nI_add a 3
theorem s_a4 (a : Nat) : nI a + 4 = nI (a + 4) := nI_add a 4
theorem s_a5 (a : Nat) : nI a + 5 = nI (a + 5) := nI_add a 5
theorem s_a6 (a : Nat) : nI a + 6 = nI (a + 6) := nI_add a 6
theorem s_a7 (a : Nat) : nI a + 7 = nI (a + 7) := nI_add a 7
theorem s_3a (a : Nat) : (3 : Int32) + nI a = nI (3 + a) := nI_add 3 a
theorem s_32a (a : Nat) : (32 : Int32) + nI a = nI (32 + a) := nI_add 32 a
theorem s_33a (a : Nat) : (33 : Int32) + nI a = nI (33 + a) := nI_add 33 a
theorem s_p1 (a : Nat) : nI (a + 1) - 1 = nI a := nI_pred a
theorem s_m1 (a : Nat) : nI a + (-1) = nI a - 1 := by rw [Int32.sub_eq_add_neg]
theorem s_cl {a : Nat} (h : a < 2147483648) : (nI a).toNatClampNeg = a := nI_clamp h
theorem s_ti {a : Nat} (h : a < 2147483648) : (nI a).toInt = (a : Int) := nI_toInt h
theorem s_neg {a : Nat} (h : a < 2147483648) : ¬ nI a < 0 := nI_pos h
theorem s_pos {a : Nat} (h : a < 2147483648) : 0 ≤ nI a := nI_pos' h
theorem s_nm {a : Nat} (h : a < 2147483648) : ¬ nI a = -1 := fun z => by
  have h1 := s_ti h
  rw [z] at h1
  have h2 : ((-1 : Int32)).toInt = -1 := by decide
  omega
theorem s_leI {a b : Nat} (ha : a < 2147483648) (hb : b < 2147483648) : (nI a ≤ nI b) = (a ≤ b) := propext (nI_leI ha hb)
theorem s_ltI {a b : Nat} (ha : a < 2147483648) (hb : b < 2147483648) : (nI a < nI b) = (a < b) := propext (nI_ltI ha hb)
theorem s_eqI {a b : Nat} (ha : a < 2147483648) (hb : b < 2147483648) : (nI a = nI b) = (a = b) := propext (nI_eq ha hb)
/-! guards -/
theorem s_gd {α : Type} {c : Prop} [Decidable c] {x : Option α} (h : c) : wk_gd c x = x := if_pos h
theorem s_in {a N : Nat} (h : a < N) (hN : N < 2147483648) : ¬ (nI a < 0 ∨ N ≤ (nI a).toNatClampNeg) := nI_in h hN
theorem s_gi {α : Type} {a N : Nat} {x : Option α} {ii : Decidable (¬ (nI a < 0 ∨ N ≤ (nI a).toNatClampNeg))} (h : a < N) (hN : N < 2147483648) : @wk_gd α (¬ (nI a < 0 ∨ N ≤ (nI a).toNatClampNeg)) ii x = x := if_pos (nI_in h hN)
theorem s_gj {α : Type} {a N : Nat} {x : Option α} {ii : Decidable (¬ (nI a < 0 ∨ N ≤ a))} (h : a < N) (hN : N < 2147483648) : @wk_gd α (¬ (nI a < 0 ∨ N ≤ a)) ii x = x := if_pos (fun z => z.elim (s_neg (by omega)) (by omega))
theorem s_lt_d {α : Type} (v : Int32) (k : Int32 → Option α) : wk_lt v k = k v := rfl
theorem s_ll_d {α : Type} (v : Int64) (k : Int64 → Option α) : wk_ll v k = k v := rfl
theorem s_ln_d {α : Type} (v : Nat) (k : Nat → Option α) : wk_ln v k = k v := rfl
theorem s_mu_d {α : Type} (v : wk_T) (k : wk_T → Option α) : wk_mu v k = k v := rfl
theorem s_cl_d {ρ α : Type} (r : ρ) (M : wk_T) (k : ρ → wk_T → Option α) : wk_cl (some (r, M)) k = k r M := rfl
/-! the earliest use of a room, of several the first one -/
def s_F (Rf Tf : Nat → Int32) (lo hi r : Nat) (x : Int32) : Prop := (x = -1 ∧ ∀ j, lo ≤ j → j < hi → Rf j ≠ nI r) ∨ ∃ k, lo ≤ k ∧ k < hi ∧ x = nI k ∧ Rf k = nI r ∧ ∀ j, lo ≤ j → j < hi → Rf j = nI r → ¬ Tf j < Tf k ∧ (j < k → Tf k < Tf j)
theorem s_F_one {Rf Tf : Nat → Int32} {lo hi r : Nat} {x x' : Int32} (h : s_F Rf Tf lo hi r x) (h' : s_F Rf Tf lo hi r x') : x = x' := by
  rcases h with ⟨h1, h2⟩ | ⟨k, h1, h2, h3, h4, h5⟩ <;> rcases h' with ⟨g1, g2⟩ | ⟨k', g1, g2, g3, g4, g5⟩
  · rw [h1, g1]
  · exact absurd g4 (h2 k' g1 g2)
  · exact absurd h4 (g2 k h1 h2)
  · have a1 := h5 k' g1 g2 g4
    have a2 := g5 k h1 h2 h4
    have hk : k = k' := by
      rcases Nat.lt_trichotomy k k' with q | q | q
      · exact absurd (a2.2 q) a1.1
      · exact q
      · exact absurd (a1.2 q) a2.1
    rw [h3, g3, hk]
theorem s_firstC {M : wk_T} {r w : Nat} (hr : r < 8) (hw : w ≤ 12) (h6 : M 0 0 0 6 = nI w) : ∀ (d i fuel : Nat) (x er : Int32), w - i = d → i ≤ w → d < fuel → s_F (M 3 0 0) (M 4 0 0) 0 i r x → (∀ k, k < i → x = nI k → er = M 4 0 0 k) → ∃ x', f_X0_firstUseOf_7 0 fuel (nI r) x er (nI i) M = some (x', M) ∧ s_F (M 3 0 0) (M 4 0 0) 0 w r x' := by
  intro d
  induction d with
  | zero =>
    intro i fuel x er hd hi hf hx hE
    obtain ⟨f, rfl⟩ : ∃ f, fuel = f + 1 := ⟨fuel - 1, by omega⟩
    have hiw : i = w := by omega
    subst hiw
    refine ⟨x, ?_, hx⟩
    rw [f_X0_firstUseOf_7, h6, if_pos (by rw [s_leI (by omega) (by omega)]; omega)]
  | succ d ih =>
    intro i fuel x er hd hi hf hx hE
    obtain ⟨f, rfl⟩ : ∃ f, fuel = f + 1 := ⟨fuel - 1, by omega⟩
    have hlt : i < w := by omega
    rw [f_X0_firstUseOf_7, h6, if_neg (by rw [s_leI (by omega) (by omega)]; omega), s_gi (by omega) (by omega), s_cl (by omega)]
    by_cases hm : M 3 0 0 i = nI r
    · rw [if_pos hm]
      by_cases hx1 : x = -1
      · rw [if_pos hx1]
        unfold f_X0_firstUseOf_43 f_X0_firstUseOf_54
        rw [s_gi (by omega) (by omega), s_cl (by omega), s_lt_d, s_lt_d, s_a1]
        refine ih (i + 1) f _ _ (by omega) (by omega) (by omega) (Or.inr ⟨i, by omega, by omega, rfl, hm, fun j _ hj hj2 => ?_⟩) (fun k hk hk2 => ?_)
        · rcases hx with ⟨_, h2⟩ | ⟨k, _, hk, hk2, _⟩
          · rcases Nat.lt_or_ge j i with q | q
            · exact absurd hj2 (h2 j (by omega) q)
            · have : j = i := by omega
              subst this
              exact ⟨by rw [s_lt]; omega, fun q => by omega⟩
          · exact absurd (hk2.symm.trans hx1) (s_nm (by omega))
        · have hki : k = i := ((s_eqI (by omega) (by omega)).mp hk2).symm
          rw [hki]
      · rw [if_neg hx1, s_gj (by omega) (by omega)]
        rcases hx with ⟨h1, _⟩ | ⟨k, h0, hk, hk2, hk3, hk4⟩
        · exact absurd h1 hx1
        · have hE2 := hE k hk hk2
          by_cases hle : er ≤ M 4 0 0 i
          · rw [if_pos hle]
            unfold f_X0_firstUseOf_54
            rw [s_lt_d, s_a1]
            refine ih (i + 1) f _ _ (by omega) (by omega) (by omega) (Or.inr ⟨k, h0, by omega, hk2, hk3, fun j _ hj hj2 => ?_⟩) (fun k2 hk22 hk23 => ?_)
            · rcases Nat.lt_or_ge j i with q | q
              · exact hk4 j (by omega) q hj2
              · have : j = i := by omega
                subst this
                rw [hE2, s_le] at hle
                exact ⟨by rw [s_lt]; omega, fun q => by omega⟩
            · have hkk : k2 = k := (s_eqI (by omega) (by omega)).mp (hk23.symm.trans hk2)
              rw [hkk]; exact hE2
          · rw [if_neg hle]
            unfold f_X0_firstUseOf_43 f_X0_firstUseOf_54
            rw [s_gi (by omega) (by omega), s_cl (by omega), s_lt_d, s_lt_d, s_a1]
            rw [hE2, s_le] at hle
            refine ih (i + 1) f _ _ (by omega) (by omega) (by omega) (Or.inr ⟨i, by omega, by omega, rfl, hm, fun j _ hj hj2 => ?_⟩) (fun k2 hk22 hk23 => ?_)
            · rcases Nat.lt_or_ge j i with q | q
              · have hz := hk4 j (by omega) q hj2
                rw [s_lt] at hz ⊢
                refine ⟨by omega, fun _ => ?_⟩
                rw [s_lt]
                omega
              · have : j = i := by omega
                subst this
                exact ⟨by rw [s_lt]; omega, fun q => by omega⟩
            · have hki : k2 = i := ((s_eqI (by omega) (by omega)).mp hk23).symm
              rw [hki]
    · rw [if_neg hm]
      unfold f_X0_firstUseOf_54
      rw [s_lt_d, s_a1]
      refine ih (i + 1) f _ _ (by omega) (by omega) (by omega) ?_ (fun k hk hk2 => ?_)
      · rcases hx with ⟨h1, h2⟩ | ⟨k, h0, hk, hk2, hk3, hk4⟩
        · refine Or.inl ⟨h1, fun j _ hj => ?_⟩
          rcases Nat.lt_or_ge j i with q | q
          · exact h2 j (by omega) q
          · have : j = i := by omega
            subst this
            exact hm
        · refine Or.inr ⟨k, h0, by omega, hk2, hk3, fun j _ hj hj2 => ?_⟩
          rcases Nat.lt_or_ge j i with q | q
          · exact hk4 j (by omega) q hj2
          · have : j = i := by omega
            subst this
            exact absurd hj2 hm
      · rcases hx with ⟨h1, _⟩ | ⟨k3, h0, hk3, hk32, _⟩
        · exact absurd (hk2.symm.trans h1) (s_nm (by omega))
        · have hkk : k = k3 := (s_eqI (by omega) (by omega)).mp (hk2.symm.trans hk32)
          exact hE k (by omega) hk2
theorem s_firstC0 {M : wk_T} {r w : Nat} (hr : r < 8) (hw : w ≤ 12) (h6 : M 0 0 0 6 = nI w) : ∃ x', f_X0_firstUseOf 0 (nI r) M = some (x', M) ∧ s_F (M 3 0 0) (M 4 0 0) 0 w r x' :=
  s_firstC hr hw h6 (w - 0) 0 wk_fuel (-1) 0 rfl (by omega) (by show w - 0 < 100; omega) (Or.inl ⟨rfl, fun j _ hj => by omega⟩) (fun k hk => by omega)
