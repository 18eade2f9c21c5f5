/-- how many of the first rooms are plugged into a rail -/
def s_cnt (M : wk_T) (rl : Int32) : Nat → Nat
  | 0 => 0
  | i + 1 => s_cnt M rl i + if M 15 0 0 (8 * i + 7) = rl then 1 else 0
theorem s_cnt_c {M M' : wk_T} {rl : Int32} (h : M' 15 0 0 = M 15 0 0) : ∀ i, s_cnt M' rl i = s_cnt M rl i := by
  intro i
  induction i with
  | zero => rfl
  | succ i ih => rw [s_cnt, s_cnt, ih, h]
theorem s_cnt_le {M : wk_T} {rl : Int32} : ∀ i, s_cnt M rl i ≤ i := by
  intro i
  induction i with
  | zero => exact Nat.le_refl _
  | succ i ih =>
    rw [s_cnt]
    split <;> omega
def s_P0 (M : wk_T) (n : Nat) : Prop := ∀ rl : Int32, (rl = nI 0 ∨ rl = nI 1) → s_cnt M rl n ≤ 4
def s_P (M : wk_T) (n : Nat) : Prop := s_P0 M n ∧ 0 < n
theorem s_P_c {M M' : wk_T} {n : Nat} (hp : s_P M n) (h : M' 15 0 0 = M 15 0 0) : s_P M' n := ⟨fun rl hr => by rw [s_cnt_c h]; exact hp.1 rl hr, hp.2⟩
/-- a piece of the law answers 1, and all holds again; T grows by b at most -/
def s_ok (f : Option (Int32 × wk_T)) (T b : Nat) : Prop := ∃ M' n' w' t' T', f = some (1, M') ∧ s_S M' M' n' w' t' T' ∧ s_Hs M' ∧ T ≤ T' ∧ T' ≤ T + b ∧ s_P M' n'
theorem j_op {op : wk_T → Option (Int32 × wk_T)} {L M L2 : wk_T} {n w t T n' w' t' T' : Nat} {v : Int32} (h : s_S L M n w t T) (hH : s_Hs M) (hop : ∀ M1, s_S L M1 n w t T → (∀ k i, M1 k 0 i = M k 0 i) → ∃ M2, op M1 = some (v, M2) ∧ s_c M1 M2 ∧ s_S L2 M2 n' w' t' T') (hL : ∀ k, 14 ≤ k → L2 k 0 0 = M k 0 0) : ∃ M3, wk_cl (f_X3_note M) (fun _ M2 => wk_cl (op M2) (fun r3 M4 => wk_cl (f_X3_kept r3 M4) (fun r5 M6 => some (r5, M6)))) = some (v, M3) ∧ s_S M3 M3 n' w' t' T' ∧ s_Hs M3 ∧ ∀ k, 14 ≤ k → M3 k 0 0 = M k 0 0 := by
  obtain ⟨M1, x1, x2, x3, x4⟩ := j_change (v := v) h hH
  obtain ⟨M2, y1, y2, y3⟩ := hop M1 x2 x3
  obtain ⟨M3, z1, z2, z3, z4⟩ := x4 L2 M2 n' w' t' T' y2 y3 hL
  refine ⟨M3, ?_, z2, z3, fun k hk => ?_⟩
  · rw [x1, s_cl_d, y1, s_cl_d, z1, s_cl_d]
  · rw [z4 k 0 (by omega) (by omega), y2 k 0 0 (by omega), x3]
/-- a change that the class refuses -/
theorem j_ref {op : wk_T → Option (Int32 × wk_T)} {M : wk_T} {n w t T : Nat} {v : Int32} (h : s_S M M n w t T) (hH : s_Hs M) (hop : ∀ M1, s_S M M1 n w t T → (∀ k i, M1 k 0 i = M k 0 i) → op M1 = some (v, M1)) : ∃ M3, wk_cl (f_X3_note M) (fun _ M2 => wk_cl (op M2) (fun r3 M4 => wk_cl (f_X3_kept r3 M4) (fun r5 M6 => some (r5, M6)))) = some (v, M3) ∧ s_S M3 M3 n w t T ∧ s_Hs M3 ∧ ∀ k, 14 ≤ k → M3 k 0 0 = M k 0 0 :=
  j_op (L2 := M) h hH (fun M1 h1 h2 => ⟨M1, hop M1 h1 h2, s_c.rf, h1⟩) (fun _ _ => rfl)
theorem s_begun {C : wk_T} {n : Nat} (hn : n ≤ 8) (g : C 0 0 0 1 = nI n) : f_X0_begunInAll 0 C = some (s_B C n, C) := by
  have key : ∀ d i f, n - i = d → i ≤ n → f_X0_begunInAll_4 0 (f + d + 1) (s_B C i) (nI i) C = some (s_B C n, C) := by
    intro d
    induction d with
    | zero =>
      intro i f hd hi
      have hin : i = n := by omega
      subst hin
      rw [f_X0_begunInAll_4, g, if_pos (show nI i ≤ nI i from Int32.le_refl _)]
    | succ d ih =>
      intro i f hd hi
      rw [show f + (d + 1) + 1 = (f + d + 1) + 1 by omega, f_X0_begunInAll_4, g, if_neg (show ¬ nI n ≤ nI i by rw [s_leI (by omega) (by omega)]; omega)]
      simp (disch := omega) only [s_gi, s_gj, s_cl, s_lt_d, s_a1]
      exact ih (i + 1) f (by omega) (by omega)
  unfold f_X0_begunInAll
  have h := key (n - 0) 0 (99 - (n - 0)) rfl (by omega)
  rw [show (99 - (n - 0)) + (n - 0) + 1 = wk_fuel by show _ = 100; omega] at h
  exact h
theorem s_in3 {C : wk_T} {lo hi x : Int32} (h1 : ¬ x < lo) (h2 : x ≤ hi) : f_X3_outside x lo hi C = some (0, C) := by
  unfold f_X3_outside
  rw [if_neg h1, if_pos h2]
theorem s_inN {C : wk_T} {a : Nat} {lo hi : Nat} (h1 : lo ≤ a) (h2 : a ≤ hi) (h3 : hi < 2147483648) : f_X3_outside (nI a) (nI lo) (nI hi) C = some (0, C) := s_in3 (by rw [s_ltI (by omega) (by omega)]; omega) (by rw [s_leI (by omega) (by omega)]; exact h2)
theorem s_cmp0 (x : Int64) : lg_cmp x x = 0 := by
  unfold lg_cmp
  rw [if_neg (show ¬ x > x from Int64.lt_irrefl), if_pos rfl]
theorem s_lrm {a : Nat} (h : a < 9223372036854775808) : wk_lrm (lN a) 1000 = lN (a % 1000) := pk_lRem (b := 1000) h (by omega) (by omega)
theorem s_lNe {a b : Nat} (ha : a < 9223372036854775808) (hb : b < 9223372036854775808) (h : lN a = lN b) : a = b := (pk_lEQ ha hb).mp h
theorem s_w {L C : wk_T} {n w t T : Nat} (h : s_S L C n w t T) : L 14 0 0 1 = nI w ∧ w ≤ 12 := ⟨h.1.2.2.2.2.2.2.1, h.1.2.1⟩
set_option maxHeartbeats 1000000 in
theorem a_tick {M : wk_T} {n w t T tk : Nat} (h : s_S M M n w t T) (hH : s_Hs M) (hp : s_P M n) (h1 : 1 ≤ tk) (h2 : tk ≤ 40) (hT : T + 700 ≤ 45000) : s_ok (f_L_acts_488 wk_fuel (nI tk) 0 0 M) T 680 := by
  obtain ⟨L', C0_, w0_, T0_, c, lt, p1_, p2_, p3_, p4_, p5_, p6_, p7_, p8_, p9_, p10_⟩ := j_ticks (tk := tk) (v2 := 0) (by omega) (tk - 0) 0 M M w t T 0 rfl (by omega) h (by omega)
  have hrun := s_runL (tk := tk) (by omega) (tk - 0) 0 (99 - (tk - 0)) (lN 0) M _ L' rfl (by omega) p5_
  rw [show (99 - (tk - 0)) + (tk - 0) + 1 = wk_fuel by show _ = 100; omega] at hrun
  have hSL : s_S M L' n w t T := s_S_c h (fun _ _ => rfl) (fun k i hk => p8_ k 0 i (by omega))
  have hHL : s_Hs L' := s_Hs_c hH (p8_ 9 0 0 (by omega)) (p8_ 10 0 0 (by omega)) (p8_ 11 0 0 (by omega))
  obtain ⟨M3, m1_, m2_, m3_, m4_⟩ := j_op (op := fun M2 => f_X0_letTicksGoBy 0 (nI tk) M2) (L2 := L') (n' := n) (w' := w0_) (t' := t + (tk - 0)) (T' := T + 680) (v := nI c) hSL hHL (fun Mx hx1 hx2 => by
    obtain ⟨L3, C3, w3, T3, c3, lt3, z1_, z2_, z3_, z4_, z5_, z6_, z7_, z8_, z9_, z10_⟩ := j_ticks (tk := tk) (v2 := s_B Mx n) (by omega) (tk - 0) 0 M Mx w t T 0 rfl (by omega) hx1 (by omega)
    obtain ⟨⟨g1, g2, g3, gT, g4, g5, g6, g7, g8, g9, -⟩, -⟩ := id hx1
    have hpair := Option.some.inj (z5_.symm.trans p5_)
    have hL3 : L3 = L' := congrArg Prod.snd hpair
    have hnum : 0 + (c3 + 1000 * lt3) = 0 + (c + 1000 * lt) := s_lNe (by omega) (by omega) (congrArg Prod.fst hpair)
    have hcc : c3 = c := by omega
    subst hL3
    have hww : w3 = w0_ := (s_eqI (by have := (s_w z7_).2; omega) (by have := (s_w p7_).2; omega)).mp ((s_w z7_).1.symm.trans (s_w p7_).1)
    subst hww
    refine ⟨C3, ?_, z9_, s_S_mono z7_ (by omega) (by omega)⟩
    show f_X0_letTicksGoBy 0 (nI tk) Mx = some (nI c, C3)
    unfold f_X0_letTicksGoBy
    rw [show f_X3_outside (nI tk) 1 200 Mx = some (0, Mx) from s_inN (lo := 1) (hi := 200) h1 (by omega) (by omega), s_cl_d, if_pos rfl, g9, nI_add, if_pos (show nI (t + tk) ≤ 50000 from (nI_leI (b := 50000) (by omega) (by omega)).mpr (by omega)), s_begun g1 g5, s_cl_d]
    have e1 := z6_ (99 - (tk - 0))
    rw [show (99 - (tk - 0)) + (tk - 0) + 1 = wk_fuel by show _ = 100; omega] at e1
    rw [show f_X0_letTicksGoBy_34 0 wk_fuel (nI tk) (s_B Mx n) 0 Mx = _ from e1, f_X0_letTicksGoBy_34, if_pos (show nI tk ≤ nI tk from Int32.le_refl _), s_begun z7_.1.1 z7_.1.2.2.2.2.2.1, s_cl_d, z10_, Int32.add_comm, Int32.add_sub_cancel, hcc]) (fun _ _ => rfl)
  refine ⟨M3, n, w0_, t + (tk - 0), T + 680, ?_, m2_, m3_, by omega, Nat.le_refl _, s_P_c hp ((m4_ 15 (by omega)).trans (p8_ 15 0 0 (by omega)))⟩
  rw [show f_L_acts_488 wk_fuel (nI tk) 0 0 M = _ from hrun, f_L_acts_488, if_pos (show nI tk ≤ nI tk from Int32.le_refl _), show f_X3_tick (nI tk) L' = some (nI c, M3) from m1_, s_cl_d, nI_l (by omega), s_lrm (by omega), show (0 + (c + 1000 * lt)) % 1000 = c by omega, s_cmp0, if_pos rfl]
/-- a branch of the law: waking by hand -/
theorem a_wake {M : wk_T} {n w t T r : Nat} (h : s_S M M n w t T) (hH : s_Hs M) (hp : s_P M n) (hr : r < n) (hT : T + 700 ≤ 45000) : s_ok (wk_cl (f_L_can (nI r) M) (fun r26 M27 => if r26 = 0 then wk_cl (f_X3_wake (nI r) M27) (fun r35 M36 => if r35 = (-2) then some (1, M36) else some (0, M36)) else wk_cl (f_L_wake (nI r) M27) (fun _ M30 => wk_cl (f_X3_wake (nI r) M30) (fun r31 M32 => wk_gd (¬ (((8 * nI r) + 2) < 0 ∨ 64 ≤ ((8 * nI r) + 2).toNatClampNeg)) (if r31 = M32 15 0 0 (((8 * nI r) + 2).toNatClampNeg) then some (1, M32) else some (0, M32)))))) T 680 := by
  obtain ⟨st, rd, v, q1, q2, q3, q4, q5, q6, q7⟩ := j_can h hr
  have hn8 : n ≤ 8 := h.1.1
  by_cases hc : st = 0 ∧ rd = 1 ∧ v = 1
  · obtain ⟨L', C0_, w1_, w2_, w3_, w4_, w5_, w6_, w7_⟩ := j_wake h hr (by omega) (q1.trans hc.1)
    have hSL : s_S M L' n w t T := s_S_c h (fun _ _ => rfl) (fun k i hk => w4_ k 0 i (by omega))
    have hHL : s_Hs L' := s_Hs_c hH (w4_ 9 0 0 (by omega)) (w4_ 10 0 0 (by omega)) (w4_ 11 0 0 (by omega))
    obtain ⟨M3, m1_, m2_, m3_, m4_⟩ := j_op (op := fun M2 => f_X0_wakeRoom 0 (nI r) M2) (L2 := L') (n' := n) (w' := w) (t' := t) (T' := T + 1) (v := L' 15 0 0 (8 * r + 2)) hSL hHL (fun Mx hx1 hx2 => by
      obtain ⟨sx, rx, vx, y1_, y2_, y3_, y4_, y5_, y6_, y7_⟩ := j_can hx1 hr
      have hcx : sx = 0 ∧ rx = 1 ∧ vx = 1 := by
        by_cases hq : sx = 0 ∧ rx = 1 ∧ vx = 1
        · exact hq
        · rw [if_neg hq] at y7_
          rw [if_pos hc] at q7
          exact absurd (congrArg Prod.fst (Option.some.inj (y7_.symm.trans q7))) (show ¬ (0 : Int32) = 1 by decide)
      obtain ⟨Lx, Cx, v1_, v2_, v3_, v4_, v5_, v6_, v7_⟩ := j_wake hx1 hr (by omega) (y1_.trans hcx.1)
      have hLx : Lx = L' := congrArg Prod.snd (Option.some.inj (v1_.symm.trans w1_))
      subst hLx
      obtain ⟨⟨g1, g2, g3, gT, g4, g5, -⟩, hRx, -⟩ := id hx1
      obtain ⟨⟨-, ⟨b0, -⟩, -⟩, -⟩ := hRx r hr
      refine ⟨Cx, ?_, v5_, v3_⟩
      show f_X0_wakeRoom 0 (nI r) Mx = _
      unfold f_X0_wakeRoom
      rw [s_hasRoom g5 hr g1, s_cl_d, if_neg (show ¬ (1 : Int32) = 0 by decide)]
      simp (disch := omega) only [s_gi, s_gj, s_cl]
      rw [if_pos (show Mx 6 0 r 7 = 0 by rw [← b0, y1_]; exact hcx.1), y3_, s_cl_d, if_neg (show ¬ rx = 0 by rw [hcx.2.1]; decide), y6_, s_cl_d, if_neg (show ¬ vx = 0 by rw [hcx.2.2]; decide), v2_, s_cl_d, ← (v3_.2.1 r hr).1.1.2.2.1]) (fun _ _ => rfl)
    refine ⟨M3, n, w, t, T + 1, ?_, m2_, m3_, by omega, by omega, s_P_c hp ((m4_ 15 (by omega)).trans (w4_ 15 0 0 (by omega)))⟩
    rw [q7, if_pos hc, s_cl_d, if_neg (show ¬ (1 : Int32) = 0 by decide), w1_, s_cl_d, show f_X3_wake (nI r) L' = _ from m1_, s_cl_d]
    simp (disch := omega) only [s_m8, s_a2, s_gi, s_gj, s_cl]
    rw [m4_ 15 (by omega), if_pos rfl]
  · obtain ⟨M3, m1_, m2_, m3_, m4_⟩ := j_ref (op := fun M2 => f_X0_wakeRoom 0 (nI r) M2) (v := -2) h hH (fun Mx hx1 hx2 => by
      obtain ⟨sx, rx, vx, y1_, y2_, y3_, y4_, y5_, y6_, y7_⟩ := j_can hx1 hr
      have hcx : ¬ (sx = 0 ∧ rx = 1 ∧ vx = 1) := by
        intro hq
        rw [if_pos hq] at y7_
        rw [if_neg hc] at q7
        exact absurd (congrArg Prod.fst (Option.some.inj (y7_.symm.trans q7))) (show ¬ (1 : Int32) = 0 by decide)
      obtain ⟨⟨g1, g2, g3, gT, g4, g5, -⟩, hRx, -⟩ := id hx1
      obtain ⟨⟨-, ⟨b0, -⟩, -⟩, -⟩ := hRx r hr
      show f_X0_wakeRoom 0 (nI r) Mx = _
      unfold f_X0_wakeRoom
      rw [s_hasRoom g5 hr g1, s_cl_d, if_neg (show ¬ (1 : Int32) = 0 by decide)]
      simp (disch := omega) only [s_gi, s_gj, s_cl]
      by_cases k1_ : sx = 0
      · rw [if_pos (show Mx 6 0 r 7 = 0 by rw [← b0, y1_]; exact k1_), y3_, s_cl_d]
        rcases y4_ with rfl | ⟨rfl, -⟩
        · rcases y5_ with rfl | rfl
          · rw [if_neg (show ¬ (1 : Int32) = 0 by decide), y6_, s_cl_d, if_pos rfl]
          · exact absurd ⟨k1_, rfl, rfl⟩ hcx
        · rw [if_pos rfl]
      · rw [if_neg (show ¬ Mx 6 0 r 7 = 0 by rw [← b0, y1_]; exact k1_)])
    refine ⟨M3, n, w, t, T, ?_, m2_, m3_, by omega, by omega, s_P_c hp (m4_ 15 (by omega))⟩
    rw [q7, if_neg hc, s_cl_d, if_pos rfl, show f_X3_wake (nI r) M = _ from m1_, s_cl_d, if_pos rfl]
theorem j_sleep {L C : wk_T} {n w t T r : Nat} (h : s_S L C n w t T) (hr : r < n) : s_S (wk_up L 16 0 0 (8 * r) 0) (wk_up C 6 0 r 7 0) n w t T := by
  obtain ⟨⟨g1, g2, g3, gT, -⟩, hR, -⟩ := id h
  obtain ⟨⟨⟨a0, a1, a2, a3, a4, a5, a6, a7⟩, ⟨b0, b3, b4, b5, b6, b7⟩, ⟨e0, e1, e2, e3, e4⟩, c1, c2, c3⟩, ⟨kd, kd1, kd2, kd3⟩, ⟨wt, wt1, wt2, wt3⟩, nd, st, st1, st2, ⟨bg, bg1, bg2⟩, ⟨wk, wk1, wk2, wk3⟩, lf⟩ := hR r hr
  refine s_S_room h hr (Nat.le_refl _) gT (fun s => ?_) (fun s => ?_) (fun s => ?_) (fun s hs => ?_) (fun s hs1 hs2 hs3 => ?_) (fun k i hk => ?_) ?_ ?_
  · simp (disch := omega) only [u_n]
  · simp (disch := omega) only [u_n]
  · simp (disch := omega) only [u_n]
  · simp (disch := omega) only [u_n]
  · simp (disch := omega) only [u_n]
  · simp (disch := omega) only [u_r]
  · unfold s_R
    simp (disch := omega) only [u_e, u_n]
    exact ⟨⟨a0, a1, a2, a3, a4, a5, a6, a7⟩, ⟨trivial, b3, b4, b5, b6, b7⟩, ⟨e0, e1, e2, e3, e4⟩, fun z => absurd z (by decide), fun z => absurd z (by decide), c3⟩
  · unfold s_O
    simp (disch := omega) only [u_e, u_n]
    exact ⟨⟨kd, kd1, kd2, kd3⟩, ⟨wt, wt1, wt2, wt3⟩, nd, 0, by omega, rfl, ⟨bg, bg1, bg2⟩, ⟨wk, wk1, wk2, fun z => by omega⟩, fun z => by omega⟩
theorem s_sleepRef {M : wk_T} {n w t T r : Nat} (h : s_S M M n w t T) (hH : s_Hs M) (hp : s_P M n) (hr : r < n) (hno : ¬ (M 16 0 0 (8 * r) = 2 ∧ f_L_needed (nI r) M = some (0, M))) : s_ok (f_L_acts_412 (nI r) M) T 680 := by
  have hn8 : n ≤ 8 := h.1.1
  obtain ⟨M3, m1_, m2_, m3_, m4_⟩ := j_ref (op := fun M2 => f_X0_sendToSleep 0 (nI r) M2) (v := -2) h hH (fun Mx hx1 hx2 => by
    obtain ⟨⟨g1, g2, g3, gT, g4, g5, -⟩, hRx, -⟩ := id hx1
    obtain ⟨⟨-, ⟨b0, -⟩, -⟩, -⟩ := hRx r hr
    show f_X0_sendToSleep 0 (nI r) Mx = _
    unfold f_X0_sendToSleep
    rw [s_hasRoom g5 hr g1, s_cl_d, if_neg (show ¬ (1 : Int32) = 0 by decide)]
    simp (disch := omega) only [s_gi, s_gj, s_cl]
    rw [← b0]
    by_cases k1_ : M 16 0 0 (8 * r) = 2
    · rw [if_pos k1_]
      obtain ⟨z, z1_, z2_, z3_⟩ := j_needed hx1 hr
      rw [z3_, s_cl_d]
      rcases z1_ with rfl | rfl
      · exact absurd ⟨k1_, z2_⟩ hno
      · rw [if_neg (show ¬ (1 : Int32) = 0 by decide)]
    · rw [if_neg k1_])
  refine ⟨M3, n, w, t, T, ?_, m2_, m3_, by omega, by omega, s_P_c hp (m4_ 15 (by omega))⟩
  unfold f_L_acts_412
  rw [show f_X3_sleep (nI r) M = _ from m1_, s_cl_d, if_pos rfl]
/-- a branch of the law: sending to sleep -/
theorem a_sleep {M : wk_T} {n w t T r : Nat} (h : s_S M M n w t T) (hH : s_Hs M) (hp : s_P M n) (hr : r < n) : s_ok (wk_gd (¬ ((8 * nI r) < 0 ∨ 64 ≤ (8 * nI r).toNatClampNeg)) (if M 16 0 0 ((8 * nI r).toNatClampNeg) = 2 then wk_cl (f_L_needed (nI r) M) (fun r17 M18 => if r17 = 0 then wk_gd (¬ ((8 * nI r) < 0 ∨ 64 ≤ (8 * nI r).toNatClampNeg)) (wk_mu (wk_up M18 16 0 0 ((8 * nI r).toNatClampNeg) 0) (fun M21 => wk_cl (f_X3_sleep (nI r) M21) (fun r22 M23 => wk_gd (¬ (((8 * nI r) + 2) < 0 ∨ 64 ≤ ((8 * nI r) + 2).toNatClampNeg)) (if r22 = M23 16 0 0 (((8 * nI r) + 2).toNatClampNeg) then some (1, M23) else some (0, M23))))) else f_L_acts_412 (nI r) M18) else f_L_acts_412 (nI r) M)) T 680 := by
  have hn8 : n ≤ 8 := h.1.1
  simp (disch := omega) only [s_m8, s_a2, s_gi, s_gj, s_cl, s_mu_d]
  by_cases k1_ : M 16 0 0 (8 * r) = 2
  · rw [if_pos k1_]
    obtain ⟨z, z1_, z2_, z3_⟩ := j_needed h hr
    rw [z2_, s_cl_d]
    rcases z1_ with rfl | rfl
    · rw [if_pos rfl]
      have hl : s_l M (wk_up M 16 0 0 (8 * r) 0) := s_l.up (by omega)
      have hSL : s_S M (wk_up M 16 0 0 (8 * r) 0) n w t T := s_S_c h (fun _ _ => rfl) (fun k i hk => hl k 0 i (by omega))
      have hHL : s_Hs (wk_up M 16 0 0 (8 * r) 0) := s_Hs_c hH (hl 9 0 0 (by omega)) (hl 10 0 0 (by omega)) (hl 11 0 0 (by omega))
      obtain ⟨M3, m1_, m2_, m3_, m4_⟩ := j_op (op := fun M2 => f_X0_sendToSleep 0 (nI r) M2) (L2 := wk_up M 16 0 0 (8 * r) 0) (n' := n) (w' := w) (t' := t) (T' := T) (v := M 16 0 0 (8 * r + 2)) hSL hHL (fun Mx hx1 hx2 => by
        obtain ⟨⟨g1, g2, g3, gT, g4, g5, -⟩, hRx, -⟩ := id hx1
        obtain ⟨⟨-, ⟨b0, -⟩, -, -, c2, -⟩, -⟩ := hRx r hr
        obtain ⟨y, y1_, y2_, y3_⟩ := j_needed hx1 hr
        have hy : y = 0 := congrArg Prod.fst (Option.some.inj (y2_.symm.trans z2_))
        subst hy
        refine ⟨wk_up Mx 6 0 r 7 0, ?_, s_c.up (by omega), j_sleep hx1 hr⟩
        show f_X0_sendToSleep 0 (nI r) Mx = _
        unfold f_X0_sendToSleep
        rw [s_hasRoom g5 hr g1, s_cl_d, if_neg (show ¬ (1 : Int32) = 0 by decide)]
        simp (disch := omega) only [s_gi, s_gj, s_cl]
        rw [← b0, if_pos k1_, y3_, s_cl_d, if_pos rfl, s_mu_d, u_n (by omega), ← c2 k1_]) (fun _ _ => rfl)
      refine ⟨M3, n, w, t, T, ?_, m2_, m3_, by omega, by omega, s_P_c hp ((m4_ 15 (by omega)).trans (hl 15 0 0 (by omega)))⟩
      rw [show f_X3_sleep (nI r) (wk_up M 16 0 0 (8 * r) 0) = _ from m1_, s_cl_d, m4_ 16 (by omega), u_n (by omega), if_pos rfl]
    · rw [if_neg (show ¬ (1 : Int32) = 0 by decide)]
      refine s_sleepRef h hH hp hr (fun z => ?_)
      exact absurd (congrArg Prod.fst (Option.some.inj (z.2.symm.trans z2_))) (show ¬ (0 : Int32) = 1 by decide)
  · rw [if_neg k1_]
    exact s_sleepRef h hH hp hr (fun z => k1_ z.1)
/-- a branch of the law: dropping a use -/
theorem a_drop {M : wk_T} {n w t T k : Nat} (h : s_S M M n w t T) (hH : s_Hs M) (hp : s_P M n) (hk : k ≤ w) : s_ok (if nI k = M 14 0 0 1 then wk_cl (f_X3_drop (nI k) M) (fun r48 M49 => if r48 = (-1) then some (1, M49) else some (0, M49)) else wk_gd (¬ ((3 * nI k) < 0 ∨ 36 ≤ (3 * nI k).toNatClampNeg)) (wk_lt (M 18 0 0 ((3 * nI k).toNatClampNeg)) (fun x42 => wk_cl (f_L_drop (nI k) M) (fun _ M44 => wk_cl (f_X3_drop (nI k) M44) (fun r45 M46 => if r45 = x42 then some (1, M46) else some (0, M46)))))) T 680 := by
  obtain ⟨⟨g1, g2, g3, gT, g4, g5, g6, g7, -⟩, -⟩ := id h
  rw [g6]
  by_cases hkw : k = w
  · subst hkw
    rw [if_pos rfl]
    obtain ⟨M3, m1_, m2_, m3_, m4_⟩ := j_ref (op := fun M2 => f_X0_dropUse 0 (nI k) M2) (v := -1) h hH (fun Mx hx1 hx2 => by
      show f_X0_dropUse 0 (nI k) Mx = _
      unfold f_X0_dropUse f_X0_hasUse
      rw [if_neg (show ¬ nI k < 0 from s_neg (by omega)), show Mx 0 0 0 6 = nI k from hx1.1.2.2.2.2.2.2.2.1, if_pos (show nI k ≤ nI k from Int32.le_refl _), s_cl_d, if_pos rfl])
    refine ⟨M3, n, k, t, T, ?_, m2_, m3_, by omega, by omega, s_P_c hp (m4_ 15 (by omega))⟩
    rw [show f_X3_drop (nI k) M = _ from m1_, s_cl_d, if_pos rfl]
  · have hlt : k < w := by omega
    rw [if_neg (show ¬ nI k = nI w by rw [s_eqI (by omega) (by omega)]; exact hkw)]
    simp (disch := omega) only [s_m3, s_gi, s_gj, s_cl, s_lt_d]
    obtain ⟨L', C0_, d1_, d2_, d3_, d4_, d5_, d6_⟩ := j_drop h hlt
    have hSL : s_S M L' n w t T := s_S_c h (fun _ _ => rfl) (fun k i hk => d4_ k 0 i (by omega))
    have hHL : s_Hs L' := s_Hs_c hH (d4_ 9 0 0 (by omega)) (d4_ 10 0 0 (by omega)) (d4_ 11 0 0 (by omega))
    obtain ⟨M3, m1_, m2_, m3_, m4_⟩ := j_op (op := fun M2 => f_X0_dropUse 0 (nI k) M2) (L2 := L') (n' := n) (w' := w - 1) (t' := t) (T' := T) (v := M 18 0 0 (3 * k)) hSL hHL (fun Mx hx1 hx2 => by
      obtain ⟨Lx, Cx, v1_, v2_, v3_, v4_, v5_, v6_⟩ := j_drop hx1 hlt
      have hLx : Lx = L' := congrArg Prod.snd (Option.some.inj (v1_.symm.trans d1_))
      subst hLx
      refine ⟨Cx, ?_, v5_, v3_⟩
      show f_X0_dropUse 0 (nI k) Mx = _
      unfold f_X0_dropUse
      rw [s_hasUse (w := w) hx1.1.2.2.2.2.2.2.2.1 hlt g2, s_cl_d, if_neg (show ¬ (1 : Int32) = 0 by decide)]
      simp (disch := omega) only [s_gi, s_gj, s_cl, s_lt_d]
      rw [v2_, s_cl_d, ← (hx1.2.2.2 k hlt).1]) (fun _ _ => rfl)
    refine ⟨M3, n, w - 1, t, T, ?_, m2_, m3_, by omega, by omega, s_P_c hp ((m4_ 15 (by omega)).trans (d4_ 15 0 0 (by omega)))⟩
    rw [d1_, s_cl_d, show f_X3_drop (nI k) L' = _ from m1_, s_cl_d, if_pos rfl]
theorem j_use {L C : wk_T} {n w t T r tm ln : Nat} (h : s_S L C n w t T) (hr : r < n) (hw : w < 12) (htm : tm ≤ t + 24) (hl1 : 1 ≤ ln) (hl2 : ln ≤ 9) : s_S (wk_up (wk_up (wk_up (wk_up L 18 0 0 (3 * w) (nI r)) 18 0 0 (3 * w + 1) (nI tm)) 18 0 0 (3 * w + 2) (nI ln)) 14 0 0 1 (nI (w + 1))) (wk_up (wk_up (wk_up (wk_up C 3 0 0 w (nI r)) 4 0 0 w (nI tm)) 5 0 0 w (nI ln)) 0 0 0 6 (nI (w + 1))) n (w + 1) t T := by
  obtain ⟨⟨g1, g2, g3, gT, g4, g5, g6, g7, g8, g9, g10, g11⟩, hR, hZ, hU⟩ := id h
  refine ⟨⟨g1, by omega, g3, gT, ?_⟩, fun i hi => ?_, fun i hi1 hi2 => ?_, fun k hk => ?_⟩
  · simp (disch := omega) only [u_e, u_n]
    exact ⟨g4, g5, trivial, trivial, g8, g9, g10, g11⟩
  · have q := hR i hi
    unfold s_R s_O at q ⊢
    simp (disch := omega) only [u_n]
    exact q
  · have q := hZ i hi1 hi2
    unfold s_Z at q ⊢
    simp (disch := omega) only [u_n]
    exact q
  · unfold s_U
    by_cases q : k = w
    · subst q
      simp (disch := omega) only [u_e, u_n]
      exact ⟨trivial, trivial, trivial, r, tm, ln, hr, by omega, hl1, hl2, rfl, rfl, rfl⟩
    · have z := hU k (by omega)
      unfold s_U at z
      simp (disch := omega) only [u_n]
      exact z
/-- a branch of the law: planning a use -/
theorem a_use {M : wk_T} {n w t T r tm ln : Nat} (h : s_S M M n w t T) (hH : s_Hs M) (hp : s_P M n) (hr : r < n) (hT : T + 700 ≤ 45000) (htm1 : t ≤ tm) (htm : tm ≤ t + 24) (hl1 : 1 ≤ ln) (hl2 : ln ≤ 9) : s_ok (if M 14 0 0 1 = 12 then wk_cl (f_X3_use (nI r) (nI tm) (nI ln) M) (fun r64 M65 => if r64 = (-3) then some (1, M65) else some (0, M65)) else wk_gd (¬ ((3 * M 14 0 0 1) < 0 ∨ 36 ≤ (3 * M 14 0 0 1).toNatClampNeg)) (wk_mu (wk_up M 18 0 0 ((3 * M 14 0 0 1).toNatClampNeg) (nI r)) (fun M55 => wk_gd (¬ (((3 * M55 14 0 0 1) + 1) < 0 ∨ 36 ≤ ((3 * M55 14 0 0 1) + 1).toNatClampNeg)) (wk_mu (wk_up M55 18 0 0 (((3 * M55 14 0 0 1) + 1).toNatClampNeg) (nI tm)) (fun M57 => wk_gd (¬ (((3 * M57 14 0 0 1) + 2) < 0 ∨ 36 ≤ ((3 * M57 14 0 0 1) + 2).toNatClampNeg)) (wk_mu (wk_up M57 18 0 0 (((3 * M57 14 0 0 1) + 2).toNatClampNeg) (nI ln)) (fun M59 => wk_mu (wk_up M59 14 0 0 1 (M59 14 0 0 1 + 1)) (fun M60 => wk_cl (f_X3_use (nI r) (nI tm) (nI ln) M60) (fun r61 M62 => if r61 = M62 14 0 0 1 then some (1, M62) else some (0, M62)))))))))) T 680 := by
  obtain ⟨⟨g1, g2, g3, gT, g4, g5, g6, g7, g8, g9, -⟩, -⟩ := id h
  have plan : ∀ Mx, s_S M Mx n w t T → f_X0_planUse 0 (nI r) (nI tm) (nI ln) Mx = if nI w < 12 then wk_gd (¬ (nI w < 0 ∨ 12 ≤ (nI w).toNatClampNeg)) (wk_mu (wk_up Mx 3 0 0 ((nI w).toNatClampNeg) (nI r)) (fun M12 => wk_gd (¬ (M12 0 0 0 6 < 0 ∨ 12 ≤ (M12 0 0 0 6).toNatClampNeg)) (wk_mu (wk_up M12 4 0 0 ((M12 0 0 0 6).toNatClampNeg) (nI tm)) (fun M14 => wk_gd (¬ (M14 0 0 0 6 < 0 ∨ 12 ≤ (M14 0 0 0 6).toNatClampNeg)) (wk_mu (wk_up M14 5 0 0 ((M14 0 0 0 6).toNatClampNeg) (nI ln)) (fun M16 => wk_mu (wk_up M16 0 0 0 6 (M16 0 0 0 6 + 1)) (fun M17 => some (M17 0 0 0 6, M17)))))))) else some (-3, Mx) := by
    intro Mx hx
    obtain ⟨⟨x1, x2, x3, xT, x4, x5, x6, x7, x8, x9, -⟩, -⟩ := id hx
    unfold f_X0_planUse
    rw [s_hasRoom x5 hr g1, s_cl_d, if_neg (show ¬ (1 : Int32) = 0 by decide), x9, show f_X3_outside (nI tm) (nI t) 50000 Mx = some (0, Mx) from s_inN (hi := 50000) htm1 (by omega) (by omega), s_cl_d, if_pos rfl, show f_X3_outside (nI ln) 1 50 Mx = some (0, Mx) from s_inN (lo := 1) (hi := 50) hl1 (by omega) (by omega), s_cl_d, if_pos rfl, x7]
  rw [g6]
  by_cases hw : w = 12
  · rw [if_pos (show nI w = 12 by rw [hw]; rfl)]
    obtain ⟨M3, m1_, m2_, m3_, m4_⟩ := j_ref (op := fun M2 => f_X0_planUse 0 (nI r) (nI tm) (nI ln) M2) (v := -3) h hH (fun Mx hx1 hx2 => by
      show f_X0_planUse 0 (nI r) (nI tm) (nI ln) Mx = _
      rw [plan Mx hx1, if_neg (show ¬ nI w < 12 from fun z => by have := (nI_ltI (a := w) (b := 12) (by omega) (by omega)).mp z; omega)])
    refine ⟨M3, n, w, t, T, ?_, m2_, m3_, by omega, by omega, s_P_c hp (m4_ 15 (by omega))⟩
    rw [show f_X3_use (nI r) (nI tm) (nI ln) M = _ from m1_, s_cl_d, if_pos rfl]
  · have hlt : w < 12 := by omega
    rw [if_neg (show ¬ nI w = 12 from fun z => hw ((nI_eq (a := w) (b := 12) (by omega) (by omega)).mp z))]
    simp (disch := omega) only [s_m3, s_gi, s_gj, s_cl, s_mu_d, u_n]
    rw [g6]
    simp (disch := omega) only [s_m3, s_a1, s_a2, s_gi, s_gj, s_cl, s_mu_d, u_n]
    have hl : s_l M (wk_up (wk_up (wk_up (wk_up M 18 0 0 (3 * w) (nI r)) 18 0 0 (3 * w + 1) (nI tm)) 18 0 0 (3 * w + 2) (nI ln)) 14 0 0 1 (nI (w + 1))) := (((s_l.up (by omega)).tr (s_l.up (by omega))).tr (s_l.up (by omega))).tr (s_l.up (by omega))
    have hSL : s_S M (wk_up (wk_up (wk_up (wk_up M 18 0 0 (3 * w) (nI r)) 18 0 0 (3 * w + 1) (nI tm)) 18 0 0 (3 * w + 2) (nI ln)) 14 0 0 1 (nI (w + 1))) n w t T := s_S_c h (fun _ _ => rfl) (fun k i hk => hl k 0 i (by omega))
    have hHL := s_Hs_c hH (hl 9 0 0 (by omega)) (hl 10 0 0 (by omega)) (hl 11 0 0 (by omega))
    obtain ⟨M3, m1_, m2_, m3_, m4_⟩ := j_op (op := fun M2 => f_X0_planUse 0 (nI r) (nI tm) (nI ln) M2) (L2 := wk_up (wk_up (wk_up (wk_up M 18 0 0 (3 * w) (nI r)) 18 0 0 (3 * w + 1) (nI tm)) 18 0 0 (3 * w + 2) (nI ln)) 14 0 0 1 (nI (w + 1))) (n' := n) (w' := w + 1) (t' := t) (T' := T) (v := nI (w + 1)) hSL hHL (fun Mx hx1 hx2 => by
      have x7 : Mx 0 0 0 6 = nI w := hx1.1.2.2.2.2.2.2.2.1
      refine ⟨_, ?_, (((s_c.up (by omega)).tr (s_c.up (by omega))).tr (s_c.up (by omega))).tr (s_c.up (by omega)), j_use hx1 hr hlt htm hl1 hl2⟩
      show f_X0_planUse 0 (nI r) (nI tm) (nI ln) Mx = _
      rw [plan Mx hx1, if_pos (show nI w < 12 from (nI_ltI (a := w) (b := 12) (by omega) (by omega)).mpr hlt)]
      simp (disch := omega) only [s_gi, s_gj, s_cl, s_mu_d, u_e, u_n]
      rw [x7]
      simp (disch := omega) only [s_a1, s_gi, s_gj, s_cl, s_mu_d, u_e, u_n]) (fun _ _ => rfl)
    refine ⟨M3, n, w + 1, t, T, ?_, m2_, m3_, by omega, by omega, s_P_c hp ((m4_ 15 (by omega)).trans (hl 15 0 0 (by omega)))⟩
    rw [show f_X3_use (nI r) (nI tm) (nI ln) _ = _ from m1_, s_cl_d, m4_ 14 (by omega), u_e rfl rfl rfl rfl, if_pos rfl]
