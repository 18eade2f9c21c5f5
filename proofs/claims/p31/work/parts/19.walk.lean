/-! walks by program: L_acts -/
section WP19
variable {p : Program} {l : Launch} {e : Env} {R : Room} {s : State} {m : MethodId} {args : Array Value} {below : List Frame} {meth : Method} {c : Code} {cells slots : Nat} {Q : State → Prop}
variable {D : va_G} {y : Nat → ClassId} {B : Nat → Nat → Nat → Nat} {Lk : Nat → Nat → Nat → Prop} {A : Nat → Prop} {MM : wk_T}
def f_L_acts_32 (v7 : Int32) (M : wk_T) : Option (Int32 × wk_T) := wk_cl (f_L_lays v7 0 M) (fun r1 M2 => wk_gd (r1 = 0 ∨ r1 = 1) ((some (r1, M2))))
def f_L_acts_102 (s5 : Int32) (s6 : Int32) (M : wk_T) : Option (Int32 × wk_T) := wk_cl (f_L_lays s5 s6 M) (fun r1 M2 => wk_gd (r1 = 0 ∨ r1 = 1) ((some (r1, M2))))
def f_L_acts_412 (v9 : Int32) (M : wk_T) : Option (Int32 × wk_T) := wk_cl (f_X3_sleep v9 M) (fun r1 M2 => (if r1 = (-2) then (some (1, M2)) else (some (0, M2))))
def f_L_acts_488 : Nat → Int32 → Int64 → Int32 → wk_T → Option (Int32 × wk_T)
  | 0, _, _, _, _ => none
  | n + 1, v10, v11, v13, M => (if v10 ≤ v13 then wk_cl (f_X3_tick v10 M) (fun r2 M3 => (if (lg_cmp (Int32.toInt64 r2) (wk_lrm v11 1000)) = 0 then (some (1, M3)) else (some (0, M3)))) else wk_cl (f_L_tick M) (fun r5 M6 => wk_ll ((v11 + r5)) (fun x7 => wk_lt (v13 + 1) (fun x8 => (f_L_acts_488 n v10 x7 x8 M6)))))
def f_L_acts_478 (s0 : Int32) (s1 : Int32) (s2 : Int32) (M : wk_T) : Option (Int32 × wk_T) := wk_gd (¬ s2 = 0) (wk_lt ((s0 + (wk_rem s1 s2))) (fun x2 => (f_L_acts_488 wk_fuel x2 0 0 M)))
def f_L_acts (v6 : Int32) (M : wk_T) : Option (Int32 × wk_T) := wk_cl (f_L_low (v6 >>> (5 &&& 31)) 10000000 M) (fun r1 M2 => wk_cl (f_L_low v6 28 M2) (fun r3 M4 => (if r3 < 2 then (f_L_acts_32 r1 M4) else (if (M4 14 0 0 0) = 0 then (f_L_acts_32 r1 M4) else (if 9 ≤ r3 then wk_gd (¬ (M4 14 0 0 0) = 0) (wk_lt ((wk_rem r1 (M4 14 0 0 0))) (fun x9 => (if 17 ≤ r3 then (if r3 = 17 then wk_gd (¬ ((M4 14 0 0 1) + 1) = 0) (wk_lt ((wk_rem r1 ((M4 14 0 0 1) + 1))) (fun x39 => (if x39 = (M4 14 0 0 1) then wk_cl (f_X3_drop x39 M4) (fun r48 M49 => (if r48 = (-1) then (some (1, M49)) else (some (0, M49)))) else wk_gd (¬ ((3 * x39) < 0 ∨ 36 ≤ (3 * x39).toNatClampNeg)) (wk_lt ((M4 18 0 0 ((3 * x39).toNatClampNeg))) (fun x42 => wk_cl (f_L_drop x39 M4) (fun _ M44 => wk_cl (f_X3_drop x39 M44) (fun r45 M46 => (if r45 = x42 then (some (1, M46)) else (some (0, M46)))))))))) else (if 20 ≤ r3 then (if 22 ≤ r3 then (if (wk_rem r1 4) = 0 then (f_L_acts_478 1 r1 40 M4) else (f_L_acts_478 1 r1 6 M4)) else wk_gd (¬ ((8 * x9) < 0 ∨ 64 ≤ (8 * x9).toNatClampNeg)) ((if (M4 16 0 0 ((8 * x9).toNatClampNeg)) = 2 then wk_cl (f_L_needed x9 M4) (fun r17 M18 => (if r17 = 0 then wk_gd (¬ ((8 * x9) < 0 ∨ 64 ≤ (8 * x9).toNatClampNeg)) (wk_mu (wk_up M18 16 0 0 ((8 * x9).toNatClampNeg) 0) (fun M21 => wk_cl (f_X3_sleep x9 M21) (fun r22 M23 => wk_gd (¬ (((8 * x9) + 2) < 0 ∨ 64 ≤ ((8 * x9) + 2).toNatClampNeg)) ((if r22 = (M23 16 0 0 (((8 * x9) + 2).toNatClampNeg)) then (some (1, M23)) else (some (0, M23))))))) else (f_L_acts_412 x9 M18))) else (f_L_acts_412 x9 M4)))) else wk_cl (f_L_can x9 M4) (fun r26 M27 => (if r26 = 0 then wk_cl (f_X3_wake x9 M27) (fun r35 M36 => (if r35 = (-2) then (some (1, M36)) else (some (0, M36)))) else wk_cl (f_L_wake x9 M27) (fun _ M30 => wk_cl (f_X3_wake x9 M30) (fun r31 M32 => wk_gd (¬ (((8 * x9) + 2) < 0 ∨ 64 ≤ ((8 * x9) + 2).toNatClampNeg)) ((if r31 = (M32 15 0 0 (((8 * x9) + 2).toNatClampNeg)) then (some (1, M32)) else (some (0, M32)))))))))) else wk_lt (((M4 14 0 0 2) + (wk_rem (r1 / 8) 25))) (fun x51 => wk_lt ((1 + (wk_rem (r1 / 200) 9))) (fun x52 => (if (M4 14 0 0 1) = 12 then wk_cl (f_X3_use x9 x51 x52 M4) (fun r64 M65 => (if r64 = (-3) then (some (1, M65)) else (some (0, M65)))) else wk_gd (¬ ((3 * (M4 14 0 0 1)) < 0 ∨ 36 ≤ (3 * (M4 14 0 0 1)).toNatClampNeg)) (wk_mu (wk_up M4 18 0 0 ((3 * (M4 14 0 0 1)).toNatClampNeg) x9) (fun M55 => wk_gd (¬ (((3 * (M55 14 0 0 1)) + 1) < 0 ∨ 36 ≤ ((3 * (M55 14 0 0 1)) + 1).toNatClampNeg)) (wk_mu (wk_up M55 18 0 0 (((3 * (M55 14 0 0 1)) + 1).toNatClampNeg) x51) (fun M57 => wk_gd (¬ (((3 * (M57 14 0 0 1)) + 2) < 0 ∨ 36 ≤ ((3 * (M57 14 0 0 1)) + 2).toNatClampNeg)) (wk_mu (wk_up M57 18 0 0 (((3 * (M57 14 0 0 1)) + 2).toNatClampNeg) x52) (fun M59 => wk_mu (wk_up M59 14 0 0 1 ((M59 14 0 0 1) + 1)) (fun M60 => wk_cl (f_X3_use x9 x51 x52 M60) (fun r61 M62 => (if r61 = (M62 14 0 0 1) then (some (1, M62)) else (some (0, M62))))))))))))))))) else (if r3 = 2 then (f_L_acts_102 r1 1 M4) else (if 5 ≤ r3 then (if r3 = 5 then (f_L_acts_102 r1 3 M4) else (if r3 = 6 then (f_L_acts_102 r1 4 M4) else (f_L_acts_102 r1 5 M4))) else (f_L_acts_102 r1 2 M4))))))))
set_option maxRecDepth 20000 in
theorem q_L_acts {s : State} {args : Array Value} (hts : ∀ w ∈ wsL_acts, w.before args s = true) : (Cond.constant RL 68 (10000000)).before args s = true ∧ (Cond.constantLong RL 35 (1000)).before args s = true := ⟨hts _ (List.mem_of_getElem? (i := 1) rfl), hts _ (List.mem_of_getElem? (i := 2) rfl)⟩
set_option maxRecDepth 100000 in
set_option maxHeartbeats 4000000 in
theorem w_L_acts_32 {r0 : Int32} (CX : wk_X p l e R s m args below meth c cells slots Q cL_acts 14 RL wsL_acts D y B Lk A 6 160) (RT : wk_Rz p l e R s m args below meth c cells slots Q cL_acts D y B Lk A r0 MM) {v7 : Int32} {M : wk_T} {H : Heap} {locs : List Loc} {ls : Array Slot} (h : f_L_acts_32 v7 M = some (r0, MM)) (hl : lv_has ls 14 [(0, .ref (B 9 0 0)), (1, .ref (B 14 0 0)), (2, .ref (B 15 0 0)), (3, .ref (B 16 0 0)), (4, .ref (B 17 0 0)), (7, .int v7)]) (hP : wk_H D y B Lk M H) (hS : va_S A s.heap H locs) : W p l e R s m args below meth c H locs cells slots Q (F0 m 32 ls []) := by
  obtain ⟨⟨hx, hb, hml, hown, hts⟩, hK, hI, hL, hA, hfr, hlo, hcs⟩ := id CX
  obtain ⟨q1, q2⟩ := q_L_acts hts
  unfold f_L_acts_32 at h
  refine lv_aload_n hx hb dL_acts_32 rfl (lv_at hl 0 rfl) ?_
  refine lv_aload_n hx hb dL_acts_33 rfl (lv_at hl 1 rfl) ?_
  refine lv_aload_n hx hb dL_acts_34 rfl (lv_at hl 2 rfl) ?_
  refine lv_aload_n hx hb dL_acts_35 rfl (lv_at hl 3 rfl) ?_
  refine lv_aload hx hb dL_acts_36 (lv_at hl 4 rfl) ?_
  refine lv_iload hx hb dL_acts_38 (lv_at hl 5 rfl) ?_
  refine lv_iconst (v := 0) hx hb dL_acts_40 (by decide) ?_
  obtain ⟨r1, M2, er1, h⟩ := wk_cl_e h
  refine wk_cSi (As := [.ref (B 9 0 0), .ref (B 14 0 0), .ref (B 15 0 0), .ref (B 16 0 0), .ref (B 17 0 0), .int v7, .int 0]) (rest := []) ⟨hx, hb, hml, hown, hts⟩ (m_L_lays l hI hL er1) (va_cwS 7 hts gL_acts_L_lays rfl rfl rfl (by decide +kernel) ⟨Nat.le_trans (by decide) hfr, Nat.le_trans (by decide) hlo⟩) hK hP hS hA rfl hl.1 (lv_room (Nat.le_of_ble_eq_true rfl)) hcs dL_acts_41 (fun H locs hP hS => ?_)
  obtain ⟨g3, h⟩ := wk_gd_e h
  exact RT _ _ _ _ _ _ g3 h hP hS dL_acts_44
set_option maxRecDepth 100000 in
set_option maxHeartbeats 4000000 in
theorem w_L_acts_102 {r0 : Int32} (CX : wk_X p l e R s m args below meth c cells slots Q cL_acts 14 RL wsL_acts D y B Lk A 6 160) (RT : wk_Rz p l e R s m args below meth c cells slots Q cL_acts D y B Lk A r0 MM) {s5 : Int32} {s6 : Int32} {M : wk_T} {H : Heap} {locs : List Loc} {ls : Array Slot} (h : f_L_acts_102 s5 s6 M = some (r0, MM)) (hl : lv_has ls 14 []) (hP : wk_H D y B Lk M H) (hS : va_S A s.heap H locs) : W p l e R s m args below meth c H locs cells slots Q (F0 m 102 ls [.int s6, .int s5, .ref (B 17 0 0), .ref (B 16 0 0), .ref (B 15 0 0), .ref (B 14 0 0), .ref (B 9 0 0)]) := by
  obtain ⟨⟨hx, hb, hml, hown, hts⟩, hK, hI, hL, hA, hfr, hlo, hcs⟩ := id CX
  obtain ⟨q1, q2⟩ := q_L_acts hts
  unfold f_L_acts_102 at h
  obtain ⟨r1, M2, er1, h⟩ := wk_cl_e h
  refine wk_cSi (As := [.ref (B 9 0 0), .ref (B 14 0 0), .ref (B 15 0 0), .ref (B 16 0 0), .ref (B 17 0 0), .int s5, .int s6]) (rest := []) ⟨hx, hb, hml, hown, hts⟩ (m_L_lays l hI hL er1) (va_cwS 7 hts gL_acts_L_lays rfl rfl rfl (by decide +kernel) ⟨Nat.le_trans (by decide) hfr, Nat.le_trans (by decide) hlo⟩) hK hP hS hA rfl hl.1 (lv_room (Nat.le_of_ble_eq_true rfl)) hcs dL_acts_102 (fun H locs hP hS => ?_)
  obtain ⟨g3, h⟩ := wk_gd_e h
  exact RT _ _ _ _ _ _ g3 h hP hS dL_acts_105
set_option maxRecDepth 100000 in
set_option maxHeartbeats 4000000 in
theorem w_L_acts_412 {r0 : Int32} (CX : wk_X p l e R s m args below meth c cells slots Q cL_acts 14 RL wsL_acts D y B Lk A 6 160) (RT : wk_Rz p l e R s m args below meth c cells slots Q cL_acts D y B Lk A r0 MM) {v9 : Int32} {M : wk_T} {H : Heap} {locs : List Loc} {ls : Array Slot} (h : f_L_acts_412 v9 M = some (r0, MM)) (hl : lv_has ls 14 [(0, .ref (B 9 0 0)), (9, .int v9)]) (hP : wk_H D y B Lk M H) (hS : va_S A s.heap H locs) : W p l e R s m args below meth c H locs cells slots Q (F0 m 412 ls []) := by
  obtain ⟨⟨hx, hb, hml, hown, hts⟩, hK, hI, hL, hA, hfr, hlo, hcs⟩ := id CX
  obtain ⟨q1, q2⟩ := q_L_acts hts
  unfold f_L_acts_412 at h
  refine lv_aload_n hx hb dL_acts_412 rfl (lv_at hl 0 rfl) ?_
  refine lv_iload hx hb dL_acts_413 (lv_at hl 1 rfl) ?_
  obtain ⟨r1, M2, er1, h⟩ := wk_cl_e h
  refine wk_cVi (As := [.int v9]) (rest := []) ⟨hx, hb, hml, hown, hts⟩ (m_X3_sleep l hI hL er1) (cwV 1 hts gL_acts_X3_sleep rfl rfl rfl (by decide +kernel) ⟨Nat.le_trans (by decide) hfr, Nat.le_trans (by decide) hlo⟩) hK hP hS hA (wk_l9 hL 9 (by decide) (by decide)) wk_c9 rfl rfl hl.1 (lv_room (Nat.le_of_ble_eq_true rfl)) hcs dL_acts_415 (fun H locs hP hS => ?_)
  refine lv_bipush (v := (-2)) hx hb dL_acts_418 (by decide) ?_
  refine lv_icmp_ne (tgt := 427) hx hb dL_acts_420 (by decide) (fun g3 => ?_) (fun g3 => ?_)
  · have h := wk_n g3 h
    refine lv_iconst (v := 0) hx hb dL_acts_427 (by decide) ?_
    exact RT _ _ _ _ _ _ (Or.inl rfl) h hP hS dL_acts_428
  · have h := wk_p g3 h
    refine lv_iconst (v := 1) hx hb dL_acts_423 (by decide) ?_
    refine lv_goto (tgt := 428) hx hb dL_acts_424 (by decide) ?_
    exact RT _ _ _ _ _ _ (Or.inr rfl) h hP hS dL_acts_428
set_option maxRecDepth 100000 in
set_option maxHeartbeats 4000000 in
theorem w_L_acts_488 {r0 : Int32} (CX : wk_X p l e R s m args below meth c cells slots Q cL_acts 14 RL wsL_acts D y B Lk A 6 160) (RT : wk_Rz p l e R s m args below meth c cells slots Q cL_acts D y B Lk A r0 MM) : ∀ (n : Nat) (v10 : Int32) (v11 : Int64) (v13 : Int32) (M : wk_T) (H : Heap) (locs : List Loc) (ls : Array Slot), f_L_acts_488 n v10 v11 v13 M = some (r0, MM) → lv_has ls 14 [(0, .ref (B 9 0 0)), (1, .ref (B 14 0 0)), (2, .ref (B 15 0 0)), (3, .ref (B 16 0 0)), (4, .ref (B 17 0 0)), (5, .ref (B 18 0 0)), (10, .int v10), (11, .long v11), (13, .int v13)] → wk_H D y B Lk M H → va_S A s.heap H locs → W p l e R s m args below meth c H locs cells slots Q (F0 m 488 ls []) := by
  obtain ⟨⟨hx, hb, hml, hown, hts⟩, hK, hI, hL, hA, hfr, hlo, hcs⟩ := id CX
  obtain ⟨q1, q2⟩ := q_L_acts hts
  intro n
  induction n with
  | zero =>
    intro v10 v11 v13 M H locs ls h
    exact absurd h (by rw [f_L_acts_488]; exact fun z => nomatch z)
  | succ n ih =>
    intro v10 v11 v13 M H locs ls h hl hP hS
    rw [f_L_acts_488] at h
    refine lv_iload hx hb dL_acts_488 (lv_at hl 8 rfl) ?_
    refine lv_iload hx hb dL_acts_490 (lv_at hl 6 rfl) ?_
    refine lv_icmp_ge (tgt := 516) hx hb dL_acts_492 (by decide) (fun g1 => ?_) (fun g1 => ?_)
    · have h := wk_p g1 h
      refine lv_aload_n hx hb dL_acts_516 rfl (lv_at hl 0 rfl) ?_
      refine lv_iload hx hb dL_acts_517 (lv_at hl 6 rfl) ?_
      obtain ⟨r2, M3, er2, h⟩ := wk_cl_e h
      refine wk_cVi (As := [.int v10]) (rest := []) ⟨hx, hb, hml, hown, hts⟩ (m_X3_tick l hI hL er2) (cwV 1 hts gL_acts_X3_tick rfl rfl rfl (by decide +kernel) ⟨Nat.le_trans (by decide) hfr, Nat.le_trans (by decide) hlo⟩) hK hP hS hA (wk_l9 hL 9 (by decide) (by decide)) wk_c9 rfl rfl hl.1 (lv_room (Nat.le_of_ble_eq_true rfl)) hcs dL_acts_519 (fun H locs hP hS => ?_)
      refine lv_i2l (v := (Int32.toInt64 r2)) hx hb dL_acts_522 rfl ?_
      refine lv_lload hx hb dL_acts_523 (lv_at hl 7 rfl) ?_
      refine lv_ldc2 (v := 1000) hx hb hown q2 dL_acts_525 ?_
      refine wk_lrem hx hb (by decide) dL_acts_528 ?_
      refine W.lcmp hx hb dL_acts_529 ?_
      refine lv_if_ne (tgt := 537) hx hb dL_acts_530 (by decide) (fun g4 => ?_) (fun g4 => ?_)
      · have h := wk_n g4 h
        refine lv_iconst (v := 0) hx hb dL_acts_537 (by decide) ?_
        exact RT _ _ _ _ _ _ (Or.inl rfl) h hP hS dL_acts_538
      · have h := wk_p g4 h
        refine lv_iconst (v := 1) hx hb dL_acts_533 (by decide) ?_
        refine lv_goto (tgt := 538) hx hb dL_acts_534 (by decide) ?_
        exact RT _ _ _ _ _ _ (Or.inr rfl) h hP hS dL_acts_538
    · have h := wk_n g1 h
      refine lv_lload hx hb dL_acts_495 (lv_at hl 7 rfl) ?_
      refine lv_aload_n hx hb dL_acts_497 rfl (lv_at hl 1 rfl) ?_
      refine lv_aload_n hx hb dL_acts_498 rfl (lv_at hl 2 rfl) ?_
      refine lv_aload_n hx hb dL_acts_499 rfl (lv_at hl 3 rfl) ?_
      refine lv_aload hx hb dL_acts_500 (lv_at hl 4 rfl) ?_
      refine lv_aload hx hb dL_acts_502 (lv_at hl 5 rfl) ?_
      obtain ⟨r5, M6, er5, h⟩ := wk_cl_e h
      refine wk_cSl (As := [.ref (B 14 0 0), .ref (B 15 0 0), .ref (B 16 0 0), .ref (B 17 0 0), .ref (B 18 0 0)]) (rest := [.long v11]) ⟨hx, hb, hml, hown, hts⟩ (m_L_tick l hI hL er5) (va_cwS 5 hts gL_acts_L_tick rfl rfl rfl (by decide +kernel) ⟨Nat.le_trans (by decide) hfr, Nat.le_trans (by decide) hlo⟩) hK hP hS hA rfl hl.1 (lv_room (Nat.le_of_ble_eq_true rfl)) hcs dL_acts_504 (fun H locs hP hS => ?_)
      refine lv_ladd hx hb dL_acts_507 ?_
      obtain ⟨x7, ex7, h⟩ := wk_ll_e h
      refine wk_topl ex7 ?_
      refine lv_lstore (lv' := [(11, .long x7), (0, .ref (B 9 0 0)), (1, .ref (B 14 0 0)), (2, .ref (B 15 0 0)), (3, .ref (B 16 0 0)), (4, .ref (B 17 0 0)), (5, .ref (B 18 0 0)), (10, .int v10), (13, .int v13)]) hx hb dL_acts_508 hl (by decide) rfl (fun ls hl => ?_)
      obtain ⟨x8, ex8, h⟩ := wk_lt_e h
      refine lv_iinc (v := x8) (lv' := [(13, .int x8), (11, .long x7), (0, .ref (B 9 0 0)), (1, .ref (B 14 0 0)), (2, .ref (B 15 0 0)), (3, .ref (B 16 0 0)), (4, .ref (B 17 0 0)), (5, .ref (B 18 0 0)), (10, .int v10)]) hx hb dL_acts_510 hl (k := 8) rfl (by rw [← ex8]; rfl) (by decide) rfl (fun ls hl => ?_)
      refine lv_goto (tgt := 488) hx hb dL_acts_513 (by decide) ?_
      exact ih _ _ _ _ _ _ _ h (lv_sub hl [2, 3, 4, 5, 6, 7, 8, 1, 0] rfl) hP hS
set_option maxRecDepth 100000 in
set_option maxHeartbeats 4000000 in
theorem w_L_acts_478 {r0 : Int32} (CX : wk_X p l e R s m args below meth c cells slots Q cL_acts 14 RL wsL_acts D y B Lk A 6 160) (RT : wk_Rz p l e R s m args below meth c cells slots Q cL_acts D y B Lk A r0 MM) {s0 : Int32} {s1 : Int32} {s2 : Int32} {M : wk_T} {H : Heap} {locs : List Loc} {ls : Array Slot} (h : f_L_acts_478 s0 s1 s2 M = some (r0, MM)) (hl : lv_has ls 14 [(0, .ref (B 9 0 0)), (1, .ref (B 14 0 0)), (2, .ref (B 15 0 0)), (3, .ref (B 16 0 0)), (4, .ref (B 17 0 0)), (5, .ref (B 18 0 0))]) (hP : wk_H D y B Lk M H) (hS : va_S A s.heap H locs) : W p l e R s m args below meth c H locs cells slots Q (F0 m 478 ls [.int s2, .int s1, .int s0]) := by
  obtain ⟨⟨hx, hb, hml, hown, hts⟩, hK, hI, hL, hA, hfr, hlo, hcs⟩ := id CX
  obtain ⟨q1, q2⟩ := q_L_acts hts
  unfold f_L_acts_478 at h
  obtain ⟨g1, h⟩ := wk_gd_e h
  refine wk_irem hx hb g1 dL_acts_478 ?_
  refine lv_iadd hx hb dL_acts_479 ?_
  obtain ⟨x2, ex2, h⟩ := wk_lt_e h
  refine wk_topi ex2 ?_
  refine lv_istore (lv' := [(10, .int x2), (0, .ref (B 9 0 0)), (1, .ref (B 14 0 0)), (2, .ref (B 15 0 0)), (3, .ref (B 16 0 0)), (4, .ref (B 17 0 0)), (5, .ref (B 18 0 0))]) hx hb dL_acts_480 hl (by decide) rfl (fun ls hl => ?_)
  refine lv_lconst (v := 0) hx hb dL_acts_482 (by decide) ?_
  refine lv_lstore (lv' := [(11, .long 0), (10, .int x2), (0, .ref (B 9 0 0)), (1, .ref (B 14 0 0)), (2, .ref (B 15 0 0)), (3, .ref (B 16 0 0)), (4, .ref (B 17 0 0)), (5, .ref (B 18 0 0))]) hx hb dL_acts_483 hl (by decide) rfl (fun ls hl => ?_)
  refine lv_iconst (v := 0) hx hb dL_acts_485 (by decide) ?_
  refine lv_istore (lv' := [(13, .int 0), (11, .long 0), (10, .int x2), (0, .ref (B 9 0 0)), (1, .ref (B 14 0 0)), (2, .ref (B 15 0 0)), (3, .ref (B 16 0 0)), (4, .ref (B 17 0 0)), (5, .ref (B 18 0 0))]) hx hb dL_acts_486 hl (by decide) rfl (fun ls hl => ?_)
  exact w_L_acts_488 CX RT wk_fuel _ _ _ _ _ _ _ h (lv_sub hl [3, 4, 5, 6, 7, 8, 2, 1, 0] rfl) hP hS
set_option maxRecDepth 100000 in
set_option maxHeartbeats 4000000 in
theorem w_L_acts_0 {r0 : Int32} (CX : wk_X p l e R s m args below meth c cells slots Q cL_acts 14 RL wsL_acts D y B Lk A 6 160) (RT : wk_Rz p l e R s m args below meth c cells slots Q cL_acts D y B Lk A r0 MM) {v6 : Int32} {M : wk_T} {H : Heap} {locs : List Loc} {ls : Array Slot} (h : f_L_acts v6 M = some (r0, MM)) (hl : lv_has ls 14 [(0, .ref (B 9 0 0)), (1, .ref (B 14 0 0)), (2, .ref (B 15 0 0)), (3, .ref (B 16 0 0)), (4, .ref (B 17 0 0)), (5, .ref (B 18 0 0)), (6, .int v6)]) (hP : wk_H D y B Lk M H) (hS : va_S A s.heap H locs) : W p l e R s m args below meth c H locs cells slots Q (F0 m 0 ls []) := by
  obtain ⟨⟨hx, hb, hml, hown, hts⟩, hK, hI, hL, hA, hfr, hlo, hcs⟩ := id CX
  obtain ⟨q1, q2⟩ := q_L_acts hts
  unfold f_L_acts at h
  refine lv_iload hx hb dL_acts_0 (lv_at hl 6 rfl) ?_
  refine lv_iconst (v := 5) hx hb dL_acts_2 (by decide) ?_
  refine lv_ishr hx hb dL_acts_3 ?_
  refine lv_ldc (v := 10000000) hx hb hown q1 dL_acts_4 ?_
  obtain ⟨r1, M2, er1, h⟩ := wk_cl_e h
  refine wk_cSi (As := [.int (v6 >>> (5 &&& 31)), .int 10000000]) (rest := []) ⟨hx, hb, hml, hown, hts⟩ (m_L_low l hI hL er1) (va_cwS 2 hts gL_acts_L_low rfl rfl rfl (by decide +kernel) ⟨Nat.le_trans (by decide) hfr, Nat.le_trans (by decide) hlo⟩) hK hP hS hA rfl hl.1 (lv_room (Nat.le_of_ble_eq_true rfl)) hcs dL_acts_6 (fun H locs hP hS => ?_)
  refine lv_istore (lv' := [(7, .int r1), (0, .ref (B 9 0 0)), (1, .ref (B 14 0 0)), (2, .ref (B 15 0 0)), (3, .ref (B 16 0 0)), (4, .ref (B 17 0 0)), (5, .ref (B 18 0 0)), (6, .int v6)]) hx hb dL_acts_9 hl (by decide) rfl (fun ls hl => ?_)
  refine lv_iload hx hb dL_acts_11 (lv_at hl 7 rfl) ?_
  refine lv_bipush (v := 28) hx hb dL_acts_13 (by decide) ?_
  obtain ⟨r3, M4, er3, h⟩ := wk_cl_e h
  refine wk_cSi (As := [.int v6, .int 28]) (rest := []) ⟨hx, hb, hml, hown, hts⟩ (m_L_low l hI hL er3) (va_cwS 2 hts gL_acts_L_low rfl rfl rfl (by decide +kernel) ⟨Nat.le_trans (by decide) hfr, Nat.le_trans (by decide) hlo⟩) hK hP hS hA rfl hl.1 (lv_room (Nat.le_of_ble_eq_true rfl)) hcs dL_acts_15 (fun H locs hP hS => ?_)
  refine lv_istore (lv' := [(8, .int r3), (7, .int r1), (0, .ref (B 9 0 0)), (1, .ref (B 14 0 0)), (2, .ref (B 15 0 0)), (3, .ref (B 16 0 0)), (4, .ref (B 17 0 0)), (5, .ref (B 18 0 0)), (6, .int v6)]) hx hb dL_acts_18 hl (by decide) rfl (fun ls hl => ?_)
  refine lv_iload hx hb dL_acts_20 (lv_at hl 0 rfl) ?_
  refine lv_iconst (v := 2) hx hb dL_acts_22 (by decide) ?_
  refine lv_icmp_lt (tgt := 32) hx hb dL_acts_23 (by decide) (fun g5 => ?_) (fun g5 => ?_)
  · have h := wk_p g5 h
    exact w_L_acts_32 CX RT h (lv_sub hl [2, 3, 4, 5, 6, 1] rfl) hP hS
  · have h := wk_n g5 h
    refine lv_aload_n hx hb dL_acts_26 rfl (lv_at hl 3 rfl) ?_
    refine lv_iconst (v := 0) hx hb dL_acts_27 (by decide) ?_
    refine wk_iald (j := 0) hx hb hK hP (wk_lL hL 14 (by decide) (by decide)) wk_c14 (by decide) (by decide) dL_acts_28 ?_
    refine lv_if_ne (tgt := 45) hx hb dL_acts_29 (by decide) (fun g6 => ?_) (fun g6 => ?_)
    · have h := wk_n g6 h
      refine lv_iload hx hb dL_acts_45 (lv_at hl 0 rfl) ?_
      refine lv_bipush (v := 9) hx hb dL_acts_47 (by decide) ?_
      refine lv_icmp_ge (tgt := 106) hx hb dL_acts_49 (by decide) (fun g7 => ?_) (fun g7 => ?_)
      · have h := wk_p g7 h
        refine lv_iload hx hb dL_acts_106 (lv_at hl 1 rfl) ?_
        refine lv_aload_n hx hb dL_acts_108 rfl (lv_at hl 3 rfl) ?_
        refine lv_iconst (v := 0) hx hb dL_acts_109 (by decide) ?_
        refine wk_iald (j := 0) hx hb hK hP (wk_lL hL 14 (by decide) (by decide)) wk_c14 (by decide) (by decide) dL_acts_110 ?_
        obtain ⟨g8, h⟩ := wk_gd_e h
        refine wk_irem hx hb g8 dL_acts_111 ?_
        obtain ⟨x9, ex9, h⟩ := wk_lt_e h
        refine wk_topi ex9 ?_
        refine lv_istore (lv' := [(9, .int x9), (8, .int r3), (7, .int r1), (0, .ref (B 9 0 0)), (1, .ref (B 14 0 0)), (2, .ref (B 15 0 0)), (3, .ref (B 16 0 0)), (4, .ref (B 17 0 0)), (5, .ref (B 18 0 0)), (6, .int v6)]) hx hb dL_acts_112 hl (by decide) rfl (fun ls hl => ?_)
        refine lv_iload hx hb dL_acts_114 (lv_at hl 1 rfl) ?_
        refine lv_bipush (v := 17) hx hb dL_acts_116 (by decide) ?_
        refine lv_icmp_ge (tgt := 240) hx hb dL_acts_118 (by decide) (fun g10 => ?_) (fun g10 => ?_)
        · have h := wk_p g10 h
          refine lv_iload hx hb dL_acts_240 (lv_at hl 1 rfl) ?_
          refine lv_bipush (v := 17) hx hb dL_acts_242 (by decide) ?_
          refine lv_icmp_ne (tgt := 315) hx hb dL_acts_244 (by decide) (fun g11 => ?_) (fun g11 => ?_)
          · have h := wk_n g11 h
            refine lv_iload hx hb dL_acts_315 (lv_at hl 1 rfl) ?_
            refine lv_bipush (v := 20) hx hb dL_acts_317 (by decide) ?_
            refine lv_icmp_ge (tgt := 383) hx hb dL_acts_319 (by decide) (fun g12 => ?_) (fun g12 => ?_)
            · have h := wk_p g12 h
              refine lv_iload hx hb dL_acts_383 (lv_at hl 1 rfl) ?_
              refine lv_bipush (v := 22) hx hb dL_acts_385 (by decide) ?_
              refine lv_icmp_ge (tgt := 461) hx hb dL_acts_387 (by decide) (fun g13 => ?_) (fun g13 => ?_)
              · have h := wk_p g13 h
                refine lv_iconst (v := 1) hx hb dL_acts_461 (by decide) ?_
                refine lv_iload hx hb dL_acts_462 (lv_at hl 2 rfl) ?_
                refine lv_iload hx hb dL_acts_464 (lv_at hl 2 rfl) ?_
                refine lv_iconst (v := 4) hx hb dL_acts_466 (by decide) ?_
                refine wk_irem hx hb (by decide) dL_acts_467 ?_
                refine lv_if_ne (tgt := 476) hx hb dL_acts_468 (by decide) (fun g14 => ?_) (fun g14 => ?_)
                · have h := wk_n g14 h
                  refine lv_bipush (v := 6) hx hb dL_acts_476 (by decide) ?_
                  exact w_L_acts_478 CX RT h (lv_sub hl [3, 4, 5, 6, 7, 8] rfl) hP hS
                · have h := wk_p g14 h
                  refine lv_bipush (v := 40) hx hb dL_acts_471 (by decide) ?_
                  refine lv_goto (tgt := 478) hx hb dL_acts_473 (by decide) ?_
                  exact w_L_acts_478 CX RT h (lv_sub hl [3, 4, 5, 6, 7, 8] rfl) hP hS
              · have h := wk_n g13 h
                refine lv_aload_n hx hb dL_acts_390 rfl (lv_at hl 6 rfl) ?_
                refine lv_bipush (v := 8) hx hb dL_acts_391 (by decide) ?_
                refine lv_iload hx hb dL_acts_393 (lv_at hl 0 rfl) ?_
                refine lv_imul hx hb dL_acts_395 ?_
                obtain ⟨g15, h⟩ := wk_gd_e h
                refine wk_iald (j := (8 * x9).toNatClampNeg) hx hb hK hP (wk_lL hL 16 (by decide) (by decide)) wk_c16 g15 rfl dL_acts_396 ?_
                refine lv_iconst (v := 2) hx hb dL_acts_397 (by decide) ?_
                refine lv_icmp_ne (tgt := 412) hx hb dL_acts_398 (by decide) (fun g16 => ?_) (fun g16 => ?_)
                · have h := wk_n g16 h
                  exact w_L_acts_412 CX RT h (lv_sub hl [3, 0] rfl) hP hS
                · have h := wk_p g16 h
                  refine lv_aload_n hx hb dL_acts_401 rfl (lv_at hl 4 rfl) ?_
                  refine lv_aload_n hx hb dL_acts_402 rfl (lv_at hl 5 rfl) ?_
                  refine lv_aload_n hx hb dL_acts_403 rfl (lv_at hl 6 rfl) ?_
                  refine lv_iload hx hb dL_acts_404 (lv_at hl 0 rfl) ?_
                  obtain ⟨r17, M18, er17, h⟩ := wk_cl_e h
                  refine wk_cSi (As := [.ref (B 14 0 0), .ref (B 15 0 0), .ref (B 16 0 0), .int x9]) (rest := []) ⟨hx, hb, hml, hown, hts⟩ (m_L_needed l hI hL er17) (va_cwS 4 hts gL_acts_L_needed rfl rfl rfl (by decide +kernel) ⟨Nat.le_trans (by decide) hfr, Nat.le_trans (by decide) hlo⟩) hK hP hS hA rfl hl.1 (lv_room (Nat.le_of_ble_eq_true rfl)) hcs dL_acts_406 (fun H locs hP hS => ?_)
                  refine lv_if_eq (tgt := 429) hx hb dL_acts_409 (by decide) (fun g19 => ?_) (fun g19 => ?_)
                  · have h := wk_p g19 h
                    refine lv_aload_n hx hb dL_acts_429 rfl (lv_at hl 6 rfl) ?_
                    refine lv_bipush (v := 8) hx hb dL_acts_430 (by decide) ?_
                    refine lv_iload hx hb dL_acts_432 (lv_at hl 0 rfl) ?_
                    refine lv_imul hx hb dL_acts_434 ?_
                    refine lv_iconst (v := 0) hx hb dL_acts_435 (by decide) ?_
                    obtain ⟨g20, h⟩ := wk_gd_e h
                    obtain ⟨M21, eM21, h⟩ := wk_mu_e h
                    refine wk_iast (j := (8 * x9).toNatClampNeg) hx hb hK hP hI hS hA (wk_lL hL 16 (by decide) (by decide)) wk_c16 g20 rfl (by rfl) dL_acts_436 (fun H locs hP hS => ?_)
                    rw [eM21] at hP
                    refine lv_aload_n hx hb dL_acts_437 rfl (lv_at hl 3 rfl) ?_
                    refine lv_iload hx hb dL_acts_438 (lv_at hl 0 rfl) ?_
                    obtain ⟨r22, M23, er22, h⟩ := wk_cl_e h
                    refine wk_cVi (As := [.int x9]) (rest := []) ⟨hx, hb, hml, hown, hts⟩ (m_X3_sleep l hI hL er22) (cwV 1 hts gL_acts_X3_sleep rfl rfl rfl (by decide +kernel) ⟨Nat.le_trans (by decide) hfr, Nat.le_trans (by decide) hlo⟩) hK hP hS hA (wk_l9 hL 9 (by decide) (by decide)) wk_c9 rfl rfl hl.1 (lv_room (Nat.le_of_ble_eq_true rfl)) hcs dL_acts_440 (fun H locs hP hS => ?_)
                    refine lv_aload_n hx hb dL_acts_443 rfl (lv_at hl 6 rfl) ?_
                    refine lv_bipush (v := 8) hx hb dL_acts_444 (by decide) ?_
                    refine lv_iload hx hb dL_acts_446 (lv_at hl 0 rfl) ?_
                    refine lv_imul hx hb dL_acts_448 ?_
                    refine lv_iconst (v := 2) hx hb dL_acts_449 (by decide) ?_
                    refine lv_iadd hx hb dL_acts_450 ?_
                    obtain ⟨g24, h⟩ := wk_gd_e h
                    refine wk_iald (j := ((8 * x9) + 2).toNatClampNeg) hx hb hK hP (wk_lL hL 16 (by decide) (by decide)) wk_c16 g24 rfl dL_acts_451 ?_
                    refine lv_icmp_ne (tgt := 459) hx hb dL_acts_452 (by decide) (fun g25 => ?_) (fun g25 => ?_)
                    · have h := wk_n g25 h
                      refine lv_iconst (v := 0) hx hb dL_acts_459 (by decide) ?_
                      exact RT _ _ _ _ _ _ (Or.inl rfl) h hP hS dL_acts_460
                    · have h := wk_p g25 h
                      refine lv_iconst (v := 1) hx hb dL_acts_455 (by decide) ?_
                      refine lv_goto (tgt := 460) hx hb dL_acts_456 (by decide) ?_
                      exact RT _ _ _ _ _ _ (Or.inr rfl) h hP hS dL_acts_460
                  · have h := wk_n g19 h
                    exact w_L_acts_412 CX RT h (lv_sub hl [3, 0] rfl) hP hS
            · have h := wk_n g12 h
              refine lv_aload_n hx hb dL_acts_322 rfl (lv_at hl 4 rfl) ?_
              refine lv_aload_n hx hb dL_acts_323 rfl (lv_at hl 5 rfl) ?_
              refine lv_aload_n hx hb dL_acts_324 rfl (lv_at hl 6 rfl) ?_
              refine lv_iload hx hb dL_acts_325 (lv_at hl 0 rfl) ?_
              obtain ⟨r26, M27, er26, h⟩ := wk_cl_e h
              refine wk_cSi (As := [.ref (B 14 0 0), .ref (B 15 0 0), .ref (B 16 0 0), .int x9]) (rest := []) ⟨hx, hb, hml, hown, hts⟩ (m_L_can l hI hL er26) (va_cwS 4 hts gL_acts_L_can rfl rfl rfl (by decide +kernel) ⟨Nat.le_trans (by decide) hfr, Nat.le_trans (by decide) hlo⟩) hK hP hS hA rfl hl.1 (lv_room (Nat.le_of_ble_eq_true rfl)) hcs dL_acts_327 (fun H locs hP hS => ?_)
              refine lv_if_ne (tgt := 350) hx hb dL_acts_330 (by decide) (fun g28 => ?_) (fun g28 => ?_)
              · have h := wk_n g28 h
                refine lv_aload_n hx hb dL_acts_350 rfl (lv_at hl 5 rfl) ?_
                refine lv_aload_n hx hb dL_acts_351 rfl (lv_at hl 6 rfl) ?_
                refine lv_aload hx hb dL_acts_352 (lv_at hl 7 rfl) ?_
                refine lv_iload hx hb dL_acts_354 (lv_at hl 0 rfl) ?_
                obtain ⟨r29, M30, er29, h⟩ := wk_cl_e h
                refine wk_cSv (As := [.ref (B 15 0 0), .ref (B 16 0 0), .ref (B 17 0 0), .int x9]) (rest := []) ⟨hx, hb, hml, hown, hts⟩ (m_L_wake l hI hL er29) (va_cwS 4 hts gL_acts_L_wake rfl rfl rfl (by decide +kernel) ⟨Nat.le_trans (by decide) hfr, Nat.le_trans (by decide) hlo⟩) hK hP hS hA rfl hl.1 (lv_room (Nat.le_of_ble_eq_true rfl)) hcs dL_acts_356 (fun H locs hP hS => ?_)
                refine lv_aload_n hx hb dL_acts_359 rfl (lv_at hl 3 rfl) ?_
                refine lv_iload hx hb dL_acts_360 (lv_at hl 0 rfl) ?_
                obtain ⟨r31, M32, er31, h⟩ := wk_cl_e h
                refine wk_cVi (As := [.int x9]) (rest := []) ⟨hx, hb, hml, hown, hts⟩ (m_X3_wake l hI hL er31) (cwV 1 hts gL_acts_X3_wake rfl rfl rfl (by decide +kernel) ⟨Nat.le_trans (by decide) hfr, Nat.le_trans (by decide) hlo⟩) hK hP hS hA (wk_l9 hL 9 (by decide) (by decide)) wk_c9 rfl rfl hl.1 (lv_room (Nat.le_of_ble_eq_true rfl)) hcs dL_acts_362 (fun H locs hP hS => ?_)
                refine lv_aload_n hx hb dL_acts_365 rfl (lv_at hl 5 rfl) ?_
                refine lv_bipush (v := 8) hx hb dL_acts_366 (by decide) ?_
                refine lv_iload hx hb dL_acts_368 (lv_at hl 0 rfl) ?_
                refine lv_imul hx hb dL_acts_370 ?_
                refine lv_iconst (v := 2) hx hb dL_acts_371 (by decide) ?_
                refine lv_iadd hx hb dL_acts_372 ?_
                obtain ⟨g33, h⟩ := wk_gd_e h
                refine wk_iald (j := ((8 * x9) + 2).toNatClampNeg) hx hb hK hP (wk_lL hL 15 (by decide) (by decide)) wk_c15 g33 rfl dL_acts_373 ?_
                refine lv_icmp_ne (tgt := 381) hx hb dL_acts_374 (by decide) (fun g34 => ?_) (fun g34 => ?_)
                · have h := wk_n g34 h
                  refine lv_iconst (v := 0) hx hb dL_acts_381 (by decide) ?_
                  exact RT _ _ _ _ _ _ (Or.inl rfl) h hP hS dL_acts_382
                · have h := wk_p g34 h
                  refine lv_iconst (v := 1) hx hb dL_acts_377 (by decide) ?_
                  refine lv_goto (tgt := 382) hx hb dL_acts_378 (by decide) ?_
                  exact RT _ _ _ _ _ _ (Or.inr rfl) h hP hS dL_acts_382
              · have h := wk_p g28 h
                refine lv_aload_n hx hb dL_acts_333 rfl (lv_at hl 3 rfl) ?_
                refine lv_iload hx hb dL_acts_334 (lv_at hl 0 rfl) ?_
                obtain ⟨r35, M36, er35, h⟩ := wk_cl_e h
                refine wk_cVi (As := [.int x9]) (rest := []) ⟨hx, hb, hml, hown, hts⟩ (m_X3_wake l hI hL er35) (cwV 1 hts gL_acts_X3_wake rfl rfl rfl (by decide +kernel) ⟨Nat.le_trans (by decide) hfr, Nat.le_trans (by decide) hlo⟩) hK hP hS hA (wk_l9 hL 9 (by decide) (by decide)) wk_c9 rfl rfl hl.1 (lv_room (Nat.le_of_ble_eq_true rfl)) hcs dL_acts_336 (fun H locs hP hS => ?_)
                refine lv_bipush (v := (-2)) hx hb dL_acts_339 (by decide) ?_
                refine lv_icmp_ne (tgt := 348) hx hb dL_acts_341 (by decide) (fun g37 => ?_) (fun g37 => ?_)
                · have h := wk_n g37 h
                  refine lv_iconst (v := 0) hx hb dL_acts_348 (by decide) ?_
                  exact RT _ _ _ _ _ _ (Or.inl rfl) h hP hS dL_acts_349
                · have h := wk_p g37 h
                  refine lv_iconst (v := 1) hx hb dL_acts_344 (by decide) ?_
                  refine lv_goto (tgt := 349) hx hb dL_acts_345 (by decide) ?_
                  exact RT _ _ _ _ _ _ (Or.inr rfl) h hP hS dL_acts_349
          · have h := wk_p g11 h
            refine lv_iload hx hb dL_acts_247 (lv_at hl 2 rfl) ?_
            refine lv_aload_n hx hb dL_acts_249 rfl (lv_at hl 4 rfl) ?_
            refine lv_iconst (v := 1) hx hb dL_acts_250 (by decide) ?_
            refine wk_iald (j := 1) hx hb hK hP (wk_lL hL 14 (by decide) (by decide)) wk_c14 (by decide) (by decide) dL_acts_251 ?_
            refine lv_iconst (v := 1) hx hb dL_acts_252 (by decide) ?_
            refine lv_iadd hx hb dL_acts_253 ?_
            obtain ⟨g38, h⟩ := wk_gd_e h
            refine wk_irem hx hb g38 dL_acts_254 ?_
            obtain ⟨x39, ex39, h⟩ := wk_lt_e h
            refine wk_topi ex39 ?_
            refine lv_istore (lv' := [(10, .int x39), (9, .int x9), (8, .int r3), (7, .int r1), (0, .ref (B 9 0 0)), (1, .ref (B 14 0 0)), (2, .ref (B 15 0 0)), (3, .ref (B 16 0 0)), (4, .ref (B 17 0 0)), (5, .ref (B 18 0 0)), (6, .int v6)]) hx hb dL_acts_255 hl (by decide) rfl (fun ls hl => ?_)
            refine lv_iload hx hb dL_acts_257 (lv_at hl 0 rfl) ?_
            refine lv_aload_n hx hb dL_acts_259 rfl (lv_at hl 5 rfl) ?_
            refine lv_iconst (v := 1) hx hb dL_acts_260 (by decide) ?_
            refine wk_iald (j := 1) hx hb hK hP (wk_lL hL 14 (by decide) (by decide)) wk_c14 (by decide) (by decide) dL_acts_261 ?_
            refine lv_icmp_ne (tgt := 281) hx hb dL_acts_262 (by decide) (fun g40 => ?_) (fun g40 => ?_)
            · have h := wk_n g40 h
              refine lv_aload hx hb dL_acts_281 (lv_at hl 9 rfl) ?_
              refine lv_iconst (v := 3) hx hb dL_acts_283 (by decide) ?_
              refine lv_iload hx hb dL_acts_284 (lv_at hl 0 rfl) ?_
              refine lv_imul hx hb dL_acts_286 ?_
              obtain ⟨g41, h⟩ := wk_gd_e h
              refine wk_iald (j := (3 * x39).toNatClampNeg) hx hb hK hP (wk_lL hL 18 (by decide) (by decide)) wk_c18 g41 rfl dL_acts_287 ?_
              obtain ⟨x42, ex42, h⟩ := wk_lt_e h
              refine wk_topi ex42 ?_
              refine lv_istore (lv' := [(11, .int x42), (10, .int x39), (9, .int x9), (8, .int r3), (7, .int r1), (0, .ref (B 9 0 0)), (1, .ref (B 14 0 0)), (2, .ref (B 15 0 0)), (3, .ref (B 16 0 0)), (4, .ref (B 17 0 0)), (5, .ref (B 18 0 0)), (6, .int v6)]) hx hb dL_acts_288 hl (by decide) rfl (fun ls hl => ?_)
              refine lv_aload_n hx hb dL_acts_290 rfl (lv_at hl 6 rfl) ?_
              refine lv_aload hx hb dL_acts_291 (lv_at hl 10 rfl) ?_
              refine lv_iload hx hb dL_acts_293 (lv_at hl 1 rfl) ?_
              obtain ⟨r43, M44, er43, h⟩ := wk_cl_e h
              refine wk_cSv (As := [.ref (B 14 0 0), .ref (B 18 0 0), .int x39]) (rest := []) ⟨hx, hb, hml, hown, hts⟩ (m_L_drop l hI hL er43) (va_cwS 3 hts gL_acts_L_drop rfl rfl rfl (by decide +kernel) ⟨Nat.le_trans (by decide) hfr, Nat.le_trans (by decide) hlo⟩) hK hP hS hA rfl hl.1 (lv_room (Nat.le_of_ble_eq_true rfl)) hcs dL_acts_295 (fun H locs hP hS => ?_)
              refine lv_aload_n hx hb dL_acts_298 rfl (lv_at hl 5 rfl) ?_
              refine lv_iload hx hb dL_acts_299 (lv_at hl 1 rfl) ?_
              obtain ⟨r45, M46, er45, h⟩ := wk_cl_e h
              refine wk_cVi (As := [.int x39]) (rest := []) ⟨hx, hb, hml, hown, hts⟩ (m_X3_drop l hI hL er45) (cwV 1 hts gL_acts_X3_drop rfl rfl rfl (by decide +kernel) ⟨Nat.le_trans (by decide) hfr, Nat.le_trans (by decide) hlo⟩) hK hP hS hA (wk_l9 hL 9 (by decide) (by decide)) wk_c9 rfl rfl hl.1 (lv_room (Nat.le_of_ble_eq_true rfl)) hcs dL_acts_301 (fun H locs hP hS => ?_)
              refine lv_iload hx hb dL_acts_304 (lv_at hl 0 rfl) ?_
              refine lv_icmp_ne (tgt := 313) hx hb dL_acts_306 (by decide) (fun g47 => ?_) (fun g47 => ?_)
              · have h := wk_n g47 h
                refine lv_iconst (v := 0) hx hb dL_acts_313 (by decide) ?_
                exact RT _ _ _ _ _ _ (Or.inl rfl) h hP hS dL_acts_314
              · have h := wk_p g47 h
                refine lv_iconst (v := 1) hx hb dL_acts_309 (by decide) ?_
                refine lv_goto (tgt := 314) hx hb dL_acts_310 (by decide) ?_
                exact RT _ _ _ _ _ _ (Or.inr rfl) h hP hS dL_acts_314
            · have h := wk_p g40 h
              refine lv_aload_n hx hb dL_acts_265 rfl (lv_at hl 4 rfl) ?_
              refine lv_iload hx hb dL_acts_266 (lv_at hl 0 rfl) ?_
              obtain ⟨r48, M49, er48, h⟩ := wk_cl_e h
              refine wk_cVi (As := [.int x39]) (rest := []) ⟨hx, hb, hml, hown, hts⟩ (m_X3_drop l hI hL er48) (cwV 1 hts gL_acts_X3_drop rfl rfl rfl (by decide +kernel) ⟨Nat.le_trans (by decide) hfr, Nat.le_trans (by decide) hlo⟩) hK hP hS hA (wk_l9 hL 9 (by decide) (by decide)) wk_c9 rfl rfl hl.1 (lv_room (Nat.le_of_ble_eq_true rfl)) hcs dL_acts_268 (fun H locs hP hS => ?_)
              refine lv_iconst (v := (-1)) hx hb dL_acts_271 (by decide) ?_
              refine lv_icmp_ne (tgt := 279) hx hb dL_acts_272 (by decide) (fun g50 => ?_) (fun g50 => ?_)
              · have h := wk_n g50 h
                refine lv_iconst (v := 0) hx hb dL_acts_279 (by decide) ?_
                exact RT _ _ _ _ _ _ (Or.inl rfl) h hP hS dL_acts_280
              · have h := wk_p g50 h
                refine lv_iconst (v := 1) hx hb dL_acts_275 (by decide) ?_
                refine lv_goto (tgt := 280) hx hb dL_acts_276 (by decide) ?_
                exact RT _ _ _ _ _ _ (Or.inr rfl) h hP hS dL_acts_280
        · have h := wk_n g10 h
          refine lv_aload_n hx hb dL_acts_121 rfl (lv_at hl 4 rfl) ?_
          refine lv_iconst (v := 2) hx hb dL_acts_122 (by decide) ?_
          refine wk_iald (j := 2) hx hb hK hP (wk_lL hL 14 (by decide) (by decide)) wk_c14 (by decide) (by decide) dL_acts_123 ?_
          refine lv_iload hx hb dL_acts_124 (lv_at hl 2 rfl) ?_
          refine lv_bipush (v := 8) hx hb dL_acts_126 (by decide) ?_
          refine lv_idiv hx hb dL_acts_128 (by decide) ?_
          refine lv_bipush (v := 25) hx hb dL_acts_129 (by decide) ?_
          refine wk_irem hx hb (by decide) dL_acts_131 ?_
          refine lv_iadd hx hb dL_acts_132 ?_
          obtain ⟨x51, ex51, h⟩ := wk_lt_e h
          refine wk_topi ex51 ?_
          refine lv_istore (lv' := [(10, .int x51), (9, .int x9), (8, .int r3), (7, .int r1), (0, .ref (B 9 0 0)), (1, .ref (B 14 0 0)), (2, .ref (B 15 0 0)), (3, .ref (B 16 0 0)), (4, .ref (B 17 0 0)), (5, .ref (B 18 0 0)), (6, .int v6)]) hx hb dL_acts_133 hl (by decide) rfl (fun ls hl => ?_)
          refine lv_iconst (v := 1) hx hb dL_acts_135 (by decide) ?_
          refine lv_iload hx hb dL_acts_136 (lv_at hl 3 rfl) ?_
          refine lv_sipush (v := 200) hx hb dL_acts_138 (by decide) ?_
          refine lv_idiv hx hb dL_acts_141 (by decide) ?_
          refine lv_bipush (v := 9) hx hb dL_acts_142 (by decide) ?_
          refine wk_irem hx hb (by decide) dL_acts_144 ?_
          refine lv_iadd hx hb dL_acts_145 ?_
          obtain ⟨x52, ex52, h⟩ := wk_lt_e h
          refine wk_topi ex52 ?_
          refine lv_istore (lv' := [(11, .int x52), (10, .int x51), (9, .int x9), (8, .int r3), (7, .int r1), (0, .ref (B 9 0 0)), (1, .ref (B 14 0 0)), (2, .ref (B 15 0 0)), (3, .ref (B 16 0 0)), (4, .ref (B 17 0 0)), (5, .ref (B 18 0 0)), (6, .int v6)]) hx hb dL_acts_146 hl (by decide) rfl (fun ls hl => ?_)
          refine lv_aload_n hx hb dL_acts_148 rfl (lv_at hl 6 rfl) ?_
          refine lv_iconst (v := 1) hx hb dL_acts_149 (by decide) ?_
          refine wk_iald (j := 1) hx hb hK hP (wk_lL hL 14 (by decide) (by decide)) wk_c14 (by decide) (by decide) dL_acts_150 ?_
          refine lv_bipush (v := 12) hx hb dL_acts_151 (by decide) ?_
          refine lv_icmp_ne (tgt := 177) hx hb dL_acts_153 (by decide) (fun g53 => ?_) (fun g53 => ?_)
          · have h := wk_n g53 h
            refine lv_aload hx hb dL_acts_177 (lv_at hl 10 rfl) ?_
            refine lv_iconst (v := 3) hx hb dL_acts_179 (by decide) ?_
            refine lv_aload_n hx hb dL_acts_180 rfl (lv_at hl 6 rfl) ?_
            refine lv_iconst (v := 1) hx hb dL_acts_181 (by decide) ?_
            refine wk_iald (j := 1) hx hb hK hP (wk_lL hL 14 (by decide) (by decide)) wk_c14 (by decide) (by decide) dL_acts_182 ?_
            refine lv_imul hx hb dL_acts_183 ?_
            refine lv_iload hx hb dL_acts_184 (lv_at hl 2 rfl) ?_
            obtain ⟨g54, h⟩ := wk_gd_e h
            obtain ⟨M55, eM55, h⟩ := wk_mu_e h
            refine wk_iast (j := (3 * (M4 14 0 0 1)).toNatClampNeg) hx hb hK hP hI hS hA (wk_lL hL 18 (by decide) (by decide)) wk_c18 g54 rfl (by rfl) dL_acts_186 (fun H locs hP hS => ?_)
            rw [eM55] at hP
            refine lv_aload hx hb dL_acts_187 (lv_at hl 10 rfl) ?_
            refine lv_iconst (v := 3) hx hb dL_acts_189 (by decide) ?_
            refine lv_aload_n hx hb dL_acts_190 rfl (lv_at hl 6 rfl) ?_
            refine lv_iconst (v := 1) hx hb dL_acts_191 (by decide) ?_
            refine wk_iald (j := 1) hx hb hK hP (wk_lL hL 14 (by decide) (by decide)) wk_c14 (by decide) (by decide) dL_acts_192 ?_
            refine lv_imul hx hb dL_acts_193 ?_
            refine lv_iconst (v := 1) hx hb dL_acts_194 (by decide) ?_
            refine lv_iadd hx hb dL_acts_195 ?_
            refine lv_iload hx hb dL_acts_196 (lv_at hl 1 rfl) ?_
            obtain ⟨g56, h⟩ := wk_gd_e h
            obtain ⟨M57, eM57, h⟩ := wk_mu_e h
            refine wk_iast (j := ((3 * (M55 14 0 0 1)) + 1).toNatClampNeg) hx hb hK hP hI hS hA (wk_lL hL 18 (by decide) (by decide)) wk_c18 g56 rfl (by rfl) dL_acts_198 (fun H locs hP hS => ?_)
            rw [eM57] at hP
            refine lv_aload hx hb dL_acts_199 (lv_at hl 10 rfl) ?_
            refine lv_iconst (v := 3) hx hb dL_acts_201 (by decide) ?_
            refine lv_aload_n hx hb dL_acts_202 rfl (lv_at hl 6 rfl) ?_
            refine lv_iconst (v := 1) hx hb dL_acts_203 (by decide) ?_
            refine wk_iald (j := 1) hx hb hK hP (wk_lL hL 14 (by decide) (by decide)) wk_c14 (by decide) (by decide) dL_acts_204 ?_
            refine lv_imul hx hb dL_acts_205 ?_
            refine lv_iconst (v := 2) hx hb dL_acts_206 (by decide) ?_
            refine lv_iadd hx hb dL_acts_207 ?_
            refine lv_iload hx hb dL_acts_208 (lv_at hl 0 rfl) ?_
            obtain ⟨g58, h⟩ := wk_gd_e h
            obtain ⟨M59, eM59, h⟩ := wk_mu_e h
            refine wk_iast (j := ((3 * (M57 14 0 0 1)) + 2).toNatClampNeg) hx hb hK hP hI hS hA (wk_lL hL 18 (by decide) (by decide)) wk_c18 g58 rfl (by rfl) dL_acts_210 (fun H locs hP hS => ?_)
            rw [eM59] at hP
            refine lv_aload_n hx hb dL_acts_211 rfl (lv_at hl 6 rfl) ?_
            refine lv_iconst (v := 1) hx hb dL_acts_212 (by decide) ?_
            refine lv_dup2_11 hx hb dL_acts_213 rfl rfl ?_
            refine wk_iald (j := 1) hx hb hK hP (wk_lL hL 14 (by decide) (by decide)) wk_c14 (by decide) (by decide) dL_acts_214 ?_
            refine lv_iconst (v := 1) hx hb dL_acts_215 (by decide) ?_
            refine lv_iadd hx hb dL_acts_216 ?_
            obtain ⟨M60, eM60, h⟩ := wk_mu_e h
            refine wk_iast (j := 1) hx hb hK hP hI hS hA (wk_lL hL 14 (by decide) (by decide)) wk_c14 (by decide) (by decide) (by rfl) dL_acts_217 (fun H locs hP hS => ?_)
            rw [eM60] at hP
            refine lv_aload_n hx hb dL_acts_218 rfl (lv_at hl 5 rfl) ?_
            refine lv_iload hx hb dL_acts_219 (lv_at hl 2 rfl) ?_
            refine lv_iload hx hb dL_acts_221 (lv_at hl 1 rfl) ?_
            refine lv_iload hx hb dL_acts_223 (lv_at hl 0 rfl) ?_
            obtain ⟨r61, M62, er61, h⟩ := wk_cl_e h
            refine wk_cVi (As := [.int x9, .int x51, .int x52]) (rest := []) ⟨hx, hb, hml, hown, hts⟩ (m_X3_use l hI hL er61) (cwV 3 hts gL_acts_X3_use rfl rfl rfl (by decide +kernel) ⟨Nat.le_trans (by decide) hfr, Nat.le_trans (by decide) hlo⟩) hK hP hS hA (wk_l9 hL 9 (by decide) (by decide)) wk_c9 rfl rfl hl.1 (lv_room (Nat.le_of_ble_eq_true rfl)) hcs dL_acts_225 (fun H locs hP hS => ?_)
            refine lv_aload_n hx hb dL_acts_228 rfl (lv_at hl 6 rfl) ?_
            refine lv_iconst (v := 1) hx hb dL_acts_229 (by decide) ?_
            refine wk_iald (j := 1) hx hb hK hP (wk_lL hL 14 (by decide) (by decide)) wk_c14 (by decide) (by decide) dL_acts_230 ?_
            refine lv_icmp_ne (tgt := 238) hx hb dL_acts_231 (by decide) (fun g63 => ?_) (fun g63 => ?_)
            · have h := wk_n g63 h
              refine lv_iconst (v := 0) hx hb dL_acts_238 (by decide) ?_
              exact RT _ _ _ _ _ _ (Or.inl rfl) h hP hS dL_acts_239
            · have h := wk_p g63 h
              refine lv_iconst (v := 1) hx hb dL_acts_234 (by decide) ?_
              refine lv_goto (tgt := 239) hx hb dL_acts_235 (by decide) ?_
              exact RT _ _ _ _ _ _ (Or.inr rfl) h hP hS dL_acts_239
          · have h := wk_p g53 h
            refine lv_aload_n hx hb dL_acts_156 rfl (lv_at hl 5 rfl) ?_
            refine lv_iload hx hb dL_acts_157 (lv_at hl 2 rfl) ?_
            refine lv_iload hx hb dL_acts_159 (lv_at hl 1 rfl) ?_
            refine lv_iload hx hb dL_acts_161 (lv_at hl 0 rfl) ?_
            obtain ⟨r64, M65, er64, h⟩ := wk_cl_e h
            refine wk_cVi (As := [.int x9, .int x51, .int x52]) (rest := []) ⟨hx, hb, hml, hown, hts⟩ (m_X3_use l hI hL er64) (cwV 3 hts gL_acts_X3_use rfl rfl rfl (by decide +kernel) ⟨Nat.le_trans (by decide) hfr, Nat.le_trans (by decide) hlo⟩) hK hP hS hA (wk_l9 hL 9 (by decide) (by decide)) wk_c9 rfl rfl hl.1 (lv_room (Nat.le_of_ble_eq_true rfl)) hcs dL_acts_163 (fun H locs hP hS => ?_)
            refine lv_bipush (v := (-3)) hx hb dL_acts_166 (by decide) ?_
            refine lv_icmp_ne (tgt := 175) hx hb dL_acts_168 (by decide) (fun g66 => ?_) (fun g66 => ?_)
            · have h := wk_n g66 h
              refine lv_iconst (v := 0) hx hb dL_acts_175 (by decide) ?_
              exact RT _ _ _ _ _ _ (Or.inl rfl) h hP hS dL_acts_176
            · have h := wk_p g66 h
              refine lv_iconst (v := 1) hx hb dL_acts_171 (by decide) ?_
              refine lv_goto (tgt := 176) hx hb dL_acts_172 (by decide) ?_
              exact RT _ _ _ _ _ _ (Or.inr rfl) h hP hS dL_acts_176
      · have h := wk_n g7 h
        refine lv_aload_n hx hb dL_acts_52 rfl (lv_at hl 2 rfl) ?_
        refine lv_aload_n hx hb dL_acts_53 rfl (lv_at hl 3 rfl) ?_
        refine lv_aload_n hx hb dL_acts_54 rfl (lv_at hl 4 rfl) ?_
        refine lv_aload_n hx hb dL_acts_55 rfl (lv_at hl 5 rfl) ?_
        refine lv_aload hx hb dL_acts_56 (lv_at hl 6 rfl) ?_
        refine lv_iload hx hb dL_acts_58 (lv_at hl 1 rfl) ?_
        refine lv_iload hx hb dL_acts_60 (lv_at hl 0 rfl) ?_
        refine lv_iconst (v := 2) hx hb dL_acts_62 (by decide) ?_
        refine lv_icmp_ne (tgt := 70) hx hb dL_acts_63 (by decide) (fun g67 => ?_) (fun g67 => ?_)
        · have h := wk_n g67 h
          refine lv_iload hx hb dL_acts_70 (lv_at hl 0 rfl) ?_
          refine lv_iconst (v := 5) hx hb dL_acts_72 (by decide) ?_
          refine lv_icmp_ge (tgt := 80) hx hb dL_acts_73 (by decide) (fun g68 => ?_) (fun g68 => ?_)
          · have h := wk_p g68 h
            refine lv_iload hx hb dL_acts_80 (lv_at hl 0 rfl) ?_
            refine lv_iconst (v := 5) hx hb dL_acts_82 (by decide) ?_
            refine lv_icmp_ne (tgt := 90) hx hb dL_acts_83 (by decide) (fun g69 => ?_) (fun g69 => ?_)
            · have h := wk_n g69 h
              refine lv_iload hx hb dL_acts_90 (lv_at hl 0 rfl) ?_
              refine lv_bipush (v := 6) hx hb dL_acts_92 (by decide) ?_
              refine lv_icmp_ne (tgt := 101) hx hb dL_acts_94 (by decide) (fun g70 => ?_) (fun g70 => ?_)
              · have h := wk_n g70 h
                refine lv_iconst (v := 5) hx hb dL_acts_101 (by decide) ?_
                exact w_L_acts_102 CX RT h (lv_sub hl [] rfl) hP hS
              · have h := wk_p g70 h
                refine lv_iconst (v := 4) hx hb dL_acts_97 (by decide) ?_
                refine lv_goto (tgt := 102) hx hb dL_acts_98 (by decide) ?_
                exact w_L_acts_102 CX RT h (lv_sub hl [] rfl) hP hS
            · have h := wk_p g69 h
              refine lv_iconst (v := 3) hx hb dL_acts_86 (by decide) ?_
              refine lv_goto (tgt := 102) hx hb dL_acts_87 (by decide) ?_
              exact w_L_acts_102 CX RT h (lv_sub hl [] rfl) hP hS
          · have h := wk_n g68 h
            refine lv_iconst (v := 2) hx hb dL_acts_76 (by decide) ?_
            refine lv_goto (tgt := 102) hx hb dL_acts_77 (by decide) ?_
            exact w_L_acts_102 CX RT h (lv_sub hl [] rfl) hP hS
        · have h := wk_p g67 h
          refine lv_iconst (v := 1) hx hb dL_acts_66 (by decide) ?_
          refine lv_goto (tgt := 102) hx hb dL_acts_67 (by decide) ?_
          exact w_L_acts_102 CX RT h (lv_sub hl [] rfl) hP hS
    · have h := wk_p g6 h
      exact w_L_acts_32 CX RT h (lv_sub hl [2, 3, 4, 5, 6, 1] rfl) hP hS
set_option maxRecDepth 100000 in
set_option maxHeartbeats 4000000 in
theorem m_L_acts (l : Launch) {D : va_G} {y : Nat → ClassId} {B : Nat → Nat → Nat → Nat} {Lk : Nat → Nat → Nat → Prop} (hI : wk_I B Lk) (hL : wk_L Lk) {v6 : Int32} {M : wk_T} {r0 : Int32} {MM : wk_T} (hf : f_L_acts v6 M = some (r0, MM)) : wk_Mi l yL_acts wsL_acts 6 160 D y B Lk [.ref (B 9 0 0), .ref (B 14 0 0), .ref (B 15 0 0), .ref (B 16 0 0), .ref (B 17 0 0), .ref (B 18 0 0), .int v6] M r0 MM :=
  wk_ofI (own := RL) (bytes := cL_acts) (maxL := 14) (ret := some .boolean) (by decide +kernel) rfl rfl (Or.inr rfl) (Nat.le_of_ble_eq_true rfl) hI hL (fun p e s m args below meth c ls CX RTi RTz hl hP hS => w_L_acts_0 CX (RTz rfl) hf hl hP hS)
end WP19
