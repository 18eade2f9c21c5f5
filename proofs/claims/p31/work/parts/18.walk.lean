/-! walks by program: L_lays -/
section WP18
variable {p : Program} {l : Launch} {e : Env} {R : Room} {s : State} {m : MethodId} {args : Array Value} {below : List Frame} {meth : Method} {c : Code} {cells slots : Nat} {Q : State → Prop}
variable {D : va_G} {y : Nat → ClassId} {B : Nat → Nat → Nat → Nat} {Lk : Nat → Nat → Nat → Prop} {A : Nat → Prop} {MM : wk_T}
def f_L_lays_334 (s0 : Int32) (s1 : Int32) (M : wk_T) : Option (Int32 × wk_T) := (if s0 = s1 then (some (1, M)) else (some (0, M)))
def f_L_lays_300 (v7 : Int32) (v8 : Int32) (v9 : Int32) (v10 : Int32) (s1 : Int32) (s2 : Int32) (M : wk_T) : Option (Int32 × wk_T) := wk_gd (¬ (s1 < 0 ∨ 64 ≤ s1.toNatClampNeg)) (wk_mu (wk_up M 15 0 0 (s1.toNatClampNeg) s2) (fun M2 => wk_cl (f_X3_need v7 v8 M2) (fun r3 M4 => (if v8 = v7 then (f_L_lays_334 r3 (-1) M4) else (if v10 = 0 then (f_L_lays_334 r3 (-2) M4) else (f_L_lays_334 r3 (v9 + 1) M4))))))
def f_L_lays_277 (v7 : Int32) (v8 : Int32) (v9 : Int32) (s0 : Int32) (M : wk_T) : Option (Int32 × wk_T) := (if s0 = 0 then (f_L_lays_300 v7 v8 v9 s0 ((8 * v7) + 6) v9 M) else (f_L_lays_300 v7 v8 v9 s0 ((8 * v7) + 6) v8 M))
def f_L_lays_276 (v7 : Int32) (v8 : Int32) (v9 : Int32) (M : wk_T) : Option (Int32 × wk_T) := (f_L_lays_277 v7 v8 v9 0 M)
def f_L_lays_414 (k384 : Int32 → Int32 → Int32 → Int32 → wk_T → Option (Int32 × wk_T)) (v7 : Int32) (v8 : Int32) (v10 : Int32) (s0 : Int32) (s1 : Int32) (M : wk_T) : Option (Int32 × wk_T) := wk_lt ((s0 + s1)) (fun x1 => wk_lt (v10 + 1) (fun x2 => (k384 v7 v8 x1 x2 M)))
def f_L_lays_494 (s0 : Int32) (s1 : Int32) (M : wk_T) : Option (Int32 × wk_T) := (if s0 = s1 then (some (1, M)) else (some (0, M)))
def f_L_lays_487 (s0 : Int32) (M : wk_T) : Option (Int32 × wk_T) := (f_L_lays_494 s0 (-2) M)
def f_L_lays_454 (v7 : Int32) (v8 : Int32) (M : wk_T) : Option (Int32 × wk_T) := wk_cl (f_X3_plug v7 v8 M) (fun r1 M2 => wk_gd (¬ (((8 * v7) + 7) < 0 ∨ 64 ≤ ((8 * v7) + 7).toNatClampNeg)) ((if 0 ≤ (M2 15 0 0 (((8 * v7) + 7).toNatClampNeg)) then (f_L_lays_487 r1 M2) else wk_gd (¬ ((8 * v7) < 0 ∨ 64 ≤ (8 * v7).toNatClampNeg)) ((if v8 = (M2 15 0 0 ((8 * v7).toNatClampNeg)) then (f_L_lays_494 r1 (-3) M2) else (f_L_lays_487 r1 M2))))))
def f_L_lays_384 : Nat → Int32 → Int32 → Int32 → Int32 → wk_T → Option (Int32 × wk_T)
  | 0, _, _, _, _, _ => none
  | n + 1, v7, v8, v9, v10, M => (if (M 14 0 0 0) ≤ v10 then wk_gd (¬ (((8 * v7) + 7) < 0 ∨ 64 ≤ ((8 * v7) + 7).toNatClampNeg)) ((if 0 ≤ (M 15 0 0 (((8 * v7) + 7).toNatClampNeg)) then (f_L_lays_454 v7 v8 M) else wk_gd (¬ ((8 * v7) < 0 ∨ 64 ≤ (8 * v7).toNatClampNeg)) ((if v8 = (M 15 0 0 ((8 * v7).toNatClampNeg)) then (if v9 = 4 then (f_L_lays_454 v7 v8 M) else wk_gd (¬ (((8 * v7) + 7) < 0 ∨ 64 ≤ ((8 * v7) + 7).toNatClampNeg)) (wk_mu (wk_up M 15 0 0 (((8 * v7) + 7).toNatClampNeg) v8) (fun M8 => wk_cl (f_X3_plug v7 v8 M8) (fun r9 M10 => (if r9 = (v9 + 1) then (some (1, M10)) else (some (0, M10))))))) else (f_L_lays_454 v7 v8 M))))) else wk_gd (¬ (((8 * v10) + 7) < 0 ∨ 64 ≤ ((8 * v10) + 7).toNatClampNeg)) ((if (M 15 0 0 (((8 * v10) + 7).toNatClampNeg)) = v8 then (f_L_lays_414 (f_L_lays_384 n) v7 v8 v10 v9 1 M) else (f_L_lays_414 (f_L_lays_384 n) v7 v8 v10 v9 0 M))))
def f_L_lays_376 (v7 : Int32) (s0 : Int32) (M : wk_T) : Option (Int32 × wk_T) := (f_L_lays_384 wk_fuel v7 s0 0 0 M)
def f_L_lays_569 (v7 : Int32) (M : wk_T) : Option (Int32 × wk_T) := wk_cl (f_X3_unplug v7 M) (fun r1 M2 => (if r1 = (-2) then (some (1, M2)) else (some (0, M2))))
def f_L_lays_629 (k592 : Int32 → Int32 → Int32 → Int32 → wk_T → Option (Int32 × wk_T)) (v7 : Int32) (v8 : Int32) (v10 : Int32) (s0 : Int32) (s1 : Int32) (M : wk_T) : Option (Int32 × wk_T) := wk_lt ((s0 + s1)) (fun x1 => wk_lt (v10 + 1) (fun x2 => (k592 v7 v8 x1 x2 M)))
def f_L_lays_628 (k592 : Int32 → Int32 → Int32 → Int32 → wk_T → Option (Int32 × wk_T)) (v7 : Int32) (v8 : Int32) (v10 : Int32) (s0 : Int32) (M : wk_T) : Option (Int32 × wk_T) := (f_L_lays_629 k592 v7 v8 v10 s0 0 M)
def f_L_lays_592 : Nat → Int32 → Int32 → Int32 → Int32 → wk_T → Option (Int32 × wk_T)
  | 0, _, _, _, _, _ => none
  | n + 1, v7, v8, v9, v10, M => (if (M 14 0 0 0) ≤ v10 then wk_gd (¬ (((8 * v7) + 7) < 0 ∨ 64 ≤ ((8 * v7) + 7).toNatClampNeg)) (wk_mu (wk_up M 15 0 0 (((8 * v7) + 7).toNatClampNeg) (-1)) (fun M3 => wk_cl (f_X3_unplug v7 M3) (fun r4 M5 => (if r4 = v9 then (some (1, M5)) else (some (0, M5)))))) else wk_gd (¬ (((8 * v10) + 7) < 0 ∨ 64 ≤ ((8 * v10) + 7).toNatClampNeg)) ((if (M 15 0 0 (((8 * v10) + 7).toNatClampNeg)) = v8 then (if v10 = v7 then (f_L_lays_628 (f_L_lays_592 n) v7 v8 v10 v9 M) else (f_L_lays_629 (f_L_lays_592 n) v7 v8 v10 v9 1 M)) else (f_L_lays_628 (f_L_lays_592 n) v7 v8 v10 v9 M))))
def f_L_lays (v5 : Int32) (v6 : Int32) (M : wk_T) : Option (Int32 × wk_T) := (if v6 = 0 then wk_lt ((wk_rem v5 2)) (fun x44 => (if (M 14 0 0 0) = 8 then wk_cl (f_X3_room x44 0 1 1 0 0 M) (fun r72 M73 => (if r72 = (-3) then wk_cl (f_X3_room 2 0 1 1 0 0 M73) (fun r75 M76 => (if r75 = (-1) then (some (1, M76)) else (some (0, M76)))) else (some (0, M73)))) else wk_lt ((8 * (M 14 0 0 0))) (fun x46 => wk_gd (¬ (x46 < 0 ∨ 64 ≤ x46.toNatClampNeg)) (wk_mu (wk_up M 15 0 0 (x46.toNatClampNeg) x44) (fun M48 => wk_gd (¬ ((x46 + 1) < 0 ∨ 64 ≤ (x46 + 1).toNatClampNeg)) (wk_mu (wk_up M48 15 0 0 ((x46 + 1).toNatClampNeg) (wk_rem (v5 / 2) 80)) (fun M50 => wk_gd (¬ ((x46 + 2) < 0 ∨ 64 ≤ (x46 + 2).toNatClampNeg)) (wk_mu (wk_up M50 15 0 0 ((x46 + 2).toNatClampNeg) (1 + (wk_rem (v5 / 7) 9))) (fun M52 => wk_gd (¬ ((x46 + 3) < 0 ∨ 64 ≤ (x46 + 3).toNatClampNeg)) (wk_mu (wk_up M52 15 0 0 ((x46 + 3).toNatClampNeg) (1 + (wk_rem (v5 / 11) 50))) (fun M54 => wk_gd (¬ ((x46 + 4) < 0 ∨ 64 ≤ (x46 + 4).toNatClampNeg)) (wk_mu (wk_up M54 15 0 0 ((x46 + 4).toNatClampNeg) (wk_rem (v5 / 13) 51)) (fun M56 => wk_gd (¬ ((x46 + 5) < 0 ∨ 64 ≤ (x46 + 5).toNatClampNeg)) (wk_mu (wk_up M56 15 0 0 ((x46 + 5).toNatClampNeg) (wk_rem (v5 / 17) 21)) (fun M58 => wk_gd (¬ ((x46 + 6) < 0 ∨ 64 ≤ (x46 + 6).toNatClampNeg)) (wk_mu (wk_up M58 15 0 0 ((x46 + 6).toNatClampNeg) (-1)) (fun M60 => wk_gd (¬ ((x46 + 7) < 0 ∨ 64 ≤ (x46 + 7).toNatClampNeg)) (wk_mu (wk_up M60 15 0 0 ((x46 + 7).toNatClampNeg) (-1)) (fun M62 => wk_mu (wk_up M62 14 0 0 0 ((M62 14 0 0 0) + 1)) (fun M63 => wk_gd (¬ ((x46 + 1) < 0 ∨ 64 ≤ (x46 + 1).toNatClampNeg)) (wk_gd (¬ ((x46 + 2) < 0 ∨ 64 ≤ (x46 + 2).toNatClampNeg)) (wk_gd (¬ ((x46 + 3) < 0 ∨ 64 ≤ (x46 + 3).toNatClampNeg)) (wk_gd (¬ ((x46 + 4) < 0 ∨ 64 ≤ (x46 + 4).toNatClampNeg)) (wk_gd (¬ ((x46 + 5) < 0 ∨ 64 ≤ (x46 + 5).toNatClampNeg)) (wk_cl (f_X3_room x44 (M63 15 0 0 ((x46 + 1).toNatClampNeg)) (M63 15 0 0 ((x46 + 2).toNatClampNeg)) (M63 15 0 0 ((x46 + 3).toNatClampNeg)) (M63 15 0 0 ((x46 + 4).toNatClampNeg)) (M63 15 0 0 ((x46 + 5).toNatClampNeg)) M63) (fun r69 M70 => (if r69 = ((M70 14 0 0 0) - 1) then (some (1, M70)) else (some (0, M70))))))))))))))))))))))))))))) else wk_gd (¬ (M 14 0 0 0) = 0) (wk_lt ((wk_rem v5 (M 14 0 0 0))) (fun x3 => (if v6 = 1 then wk_gd (¬ (x3 + 2) = 0) (wk_lt (((wk_rem (v5 / 8) (x3 + 2)) - 1)) (fun x38 => wk_gd (¬ (((8 * x3) + 6) < 0 ∨ 64 ≤ ((8 * x3) + 6).toNatClampNeg)) (wk_lt ((M 15 0 0 (((8 * x3) + 6).toNatClampNeg))) (fun x40 => wk_gd (¬ ((8 * x3) < 0 ∨ 64 ≤ (8 * x3).toNatClampNeg)) ((if (M 16 0 0 ((8 * x3).toNatClampNeg)) = 0 then (if x3 ≤ x38 then (f_L_lays_276 x3 x38 x40 M) else (f_L_lays_277 x3 x38 x40 1 M)) else (f_L_lays_276 x3 x38 x40 M))))))) else (if v6 = 2 then (if (wk_rem v5 17) = 0 then wk_gd (¬ ((8 * x3) < 0 ∨ 64 ≤ (8 * x3).toNatClampNeg)) ((f_L_lays_376 x3 (1 - (M 15 0 0 ((8 * x3).toNatClampNeg))) M)) else wk_gd (¬ ((8 * x3) < 0 ∨ 64 ≤ (8 * x3).toNatClampNeg)) ((f_L_lays_376 x3 (M 15 0 0 ((8 * x3).toNatClampNeg)) M))) else (if v6 = 3 then wk_gd (¬ (((8 * x3) + 7) < 0 ∨ 64 ≤ ((8 * x3) + 7).toNatClampNeg)) (wk_lt ((M 15 0 0 (((8 * x3) + 7).toNatClampNeg))) (fun x30 => (if x30 < 0 then (f_L_lays_569 x3 M) else wk_gd (¬ ((8 * x3) < 0 ∨ 64 ≤ (8 * x3).toNatClampNeg)) ((if (M 16 0 0 ((8 * x3).toNatClampNeg)) ≤ 0 then (f_L_lays_592 wk_fuel x3 x30 0 0 M) else (f_L_lays_569 x3 M)))))) else (if v6 = 4 then wk_lt ((wk_rem v5 2)) (fun x20 => wk_gd (¬ ((3 + x20) < 0 ∨ 5 ≤ (3 + x20).toNatClampNeg)) (wk_lt ((M 14 0 0 ((3 + x20).toNatClampNeg))) (fun x22 => wk_gd (¬ ((3 + x20) < 0 ∨ 5 ≤ (3 + x20).toNatClampNeg)) (wk_mu (wk_up M 14 0 0 ((3 + x20).toNatClampNeg) (1 + (wk_rem (v5 / 2) 4))) (fun M24 => wk_gd (¬ ((3 + x20) < 0 ∨ 5 ≤ (3 + x20).toNatClampNeg)) (wk_cl (f_X3_limit x20 (M24 14 0 0 ((3 + x20).toNatClampNeg)) M24) (fun r26 M27 => (if r26 = x22 then (some (1, M27)) else (some (0, M27)))))))))) else wk_gd (¬ (((8 * x3) + 3) < 0 ∨ 64 ≤ ((8 * x3) + 3).toNatClampNeg)) (wk_gd (¬ (((8 * x3) + 4) < 0 ∨ 64 ≤ ((8 * x3) + 4).toNatClampNeg)) (wk_lt (((10 * (M 16 0 0 (((8 * x3) + 3).toNatClampNeg))) + (M 16 0 0 (((8 * x3) + 4).toNatClampNeg)))) (fun x10 => wk_gd (¬ (((8 * x3) + 3) < 0 ∨ 64 ≤ ((8 * x3) + 3).toNatClampNeg)) (wk_mu (wk_up M 16 0 0 (((8 * x3) + 3).toNatClampNeg) (wk_rem (v5 / 8) 12)) (fun M12 => wk_gd (¬ (((8 * x3) + 4) < 0 ∨ 64 ≤ ((8 * x3) + 4).toNatClampNeg)) (wk_mu (wk_up M12 16 0 0 (((8 * x3) + 4).toNatClampNeg) (wk_rem (v5 / 96) 3)) (fun M14 => wk_gd (¬ (((8 * x3) + 3) < 0 ∨ 64 ≤ ((8 * x3) + 3).toNatClampNeg)) (wk_gd (¬ (((8 * x3) + 4) < 0 ∨ 64 ≤ ((8 * x3) + 4).toNatClampNeg)) (wk_cl (f_X3_policy x3 (M14 16 0 0 (((8 * x3) + 3).toNatClampNeg)) (M14 16 0 0 (((8 * x3) + 4).toNatClampNeg)) M14) (fun r17 M18 => (if r17 = x10 then (some (1, M18)) else (some (0, M18))))))))))))))))))))
set_option maxRecDepth 100000 in
set_option maxHeartbeats 4000000 in
theorem w_L_lays_334 {r0 : Int32} (CX : wk_X p l e R s m args below meth c cells slots Q cL_lays 11 RL wsL_lays D y B Lk A 5 130) (RT : wk_Rz p l e R s m args below meth c cells slots Q cL_lays D y B Lk A r0 MM) {s0 : Int32} {s1 : Int32} {M : wk_T} {H : Heap} {locs : List Loc} {ls : Array Slot} (h : f_L_lays_334 s0 s1 M = some (r0, MM)) (hl : lv_has ls 11 []) (hP : wk_H D y B Lk M H) (hS : va_S A s.heap H locs) : W p l e R s m args below meth c H locs cells slots Q (F0 m 334 ls [.int s1, .int s0]) := by
  obtain ⟨⟨hx, hb, hml, hown, hts⟩, hK, hI, hL, hA, hfr, hlo, hcs⟩ := id CX
  unfold f_L_lays_334 at h
  refine lv_icmp_ne (tgt := 341) hx hb dL_lays_334 (by decide) (fun g1 => ?_) (fun g1 => ?_)
  · have h := wk_n g1 h
    refine lv_iconst (v := 0) hx hb dL_lays_341 (by decide) ?_
    exact RT _ _ _ _ _ _ (Or.inl rfl) h hP hS dL_lays_342
  · have h := wk_p g1 h
    refine lv_iconst (v := 1) hx hb dL_lays_337 (by decide) ?_
    refine lv_goto (tgt := 342) hx hb dL_lays_338 (by decide) ?_
    exact RT _ _ _ _ _ _ (Or.inr rfl) h hP hS dL_lays_342
set_option maxRecDepth 100000 in
set_option maxHeartbeats 4000000 in
theorem w_L_lays_300 {r0 : Int32} (CX : wk_X p l e R s m args below meth c cells slots Q cL_lays 11 RL wsL_lays D y B Lk A 5 130) (RT : wk_Rz p l e R s m args below meth c cells slots Q cL_lays D y B Lk A r0 MM) {v7 : Int32} {v8 : Int32} {v9 : Int32} {v10 : Int32} {s1 : Int32} {s2 : Int32} {M : wk_T} {H : Heap} {locs : List Loc} {ls : Array Slot} (h : f_L_lays_300 v7 v8 v9 v10 s1 s2 M = some (r0, MM)) (hl : lv_has ls 11 [(0, .ref (B 9 0 0)), (7, .int v7), (8, .int v8), (9, .int v9), (10, .int v10)]) (hP : wk_H D y B Lk M H) (hS : va_S A s.heap H locs) : W p l e R s m args below meth c H locs cells slots Q (F0 m 300 ls [.int s2, .int s1, .ref (B 15 0 0)]) := by
  obtain ⟨⟨hx, hb, hml, hown, hts⟩, hK, hI, hL, hA, hfr, hlo, hcs⟩ := id CX
  unfold f_L_lays_300 at h
  obtain ⟨g1, h⟩ := wk_gd_e h
  obtain ⟨M2, eM2, h⟩ := wk_mu_e h
  refine wk_iast (j := s1.toNatClampNeg) hx hb hK hP hI hS hA (wk_lL hL 15 (by decide) (by decide)) wk_c15 g1 rfl (by rfl) dL_lays_300 (fun H locs hP hS => ?_)
  rw [eM2] at hP
  refine lv_aload_n hx hb dL_lays_301 rfl (lv_at hl 0 rfl) ?_
  refine lv_iload hx hb dL_lays_302 (lv_at hl 1 rfl) ?_
  refine lv_iload hx hb dL_lays_304 (lv_at hl 2 rfl) ?_
  obtain ⟨r3, M4, er3, h⟩ := wk_cl_e h
  refine wk_cVi (As := [.int v7, .int v8]) (rest := []) ⟨hx, hb, hml, hown, hts⟩ (m_X3_need l hI hL er3) (cwV 2 hts gL_lays_X3_need rfl rfl rfl (by decide +kernel) ⟨Nat.le_trans (by decide) hfr, Nat.le_trans (by decide) hlo⟩) hK hP hS hA (wk_l9 hL 9 (by decide) (by decide)) wk_c9 rfl rfl hl.1 (lv_room (Nat.le_of_ble_eq_true rfl)) hcs dL_lays_306 (fun H locs hP hS => ?_)
  refine lv_iload hx hb dL_lays_309 (lv_at hl 2 rfl) ?_
  refine lv_iload hx hb dL_lays_311 (lv_at hl 1 rfl) ?_
  refine lv_icmp_ne (tgt := 320) hx hb dL_lays_313 (by decide) (fun g5 => ?_) (fun g5 => ?_)
  · have h := wk_n g5 h
    refine lv_iload hx hb dL_lays_320 (lv_at hl 4 rfl) ?_
    refine lv_if_eq (tgt := 332) hx hb dL_lays_322 (by decide) (fun g6 => ?_) (fun g6 => ?_)
    · have h := wk_p g6 h
      refine lv_bipush (v := (-2)) hx hb dL_lays_332 (by decide) ?_
      exact w_L_lays_334 CX RT h (lv_sub hl [] rfl) hP hS
    · have h := wk_n g6 h
      refine lv_iload hx hb dL_lays_325 (lv_at hl 3 rfl) ?_
      refine lv_iconst (v := 1) hx hb dL_lays_327 (by decide) ?_
      refine lv_iadd hx hb dL_lays_328 ?_
      refine lv_goto (tgt := 334) hx hb dL_lays_329 (by decide) ?_
      exact w_L_lays_334 CX RT h (lv_sub hl [] rfl) hP hS
  · have h := wk_p g5 h
    refine lv_iconst (v := (-1)) hx hb dL_lays_316 (by decide) ?_
    refine lv_goto (tgt := 334) hx hb dL_lays_317 (by decide) ?_
    exact w_L_lays_334 CX RT h (lv_sub hl [] rfl) hP hS
set_option maxRecDepth 100000 in
set_option maxHeartbeats 4000000 in
theorem w_L_lays_277 {r0 : Int32} (CX : wk_X p l e R s m args below meth c cells slots Q cL_lays 11 RL wsL_lays D y B Lk A 5 130) (RT : wk_Rz p l e R s m args below meth c cells slots Q cL_lays D y B Lk A r0 MM) {v7 : Int32} {v8 : Int32} {v9 : Int32} {s0 : Int32} {M : wk_T} {H : Heap} {locs : List Loc} {ls : Array Slot} (h : f_L_lays_277 v7 v8 v9 s0 M = some (r0, MM)) (hl : lv_has ls 11 [(0, .ref (B 9 0 0)), (2, .ref (B 15 0 0)), (7, .int v7), (8, .int v8), (9, .int v9)]) (hP : wk_H D y B Lk M H) (hS : va_S A s.heap H locs) : W p l e R s m args below meth c H locs cells slots Q (F0 m 277 ls [.int s0]) := by
  obtain ⟨⟨hx, hb, hml, hown, hts⟩, hK, hI, hL, hA, hfr, hlo, hcs⟩ := id CX
  unfold f_L_lays_277 at h
  refine lv_istore (lv' := [(10, .int s0), (0, .ref (B 9 0 0)), (2, .ref (B 15 0 0)), (7, .int v7), (8, .int v8), (9, .int v9)]) hx hb dL_lays_277 hl (by decide) rfl (fun ls hl => ?_)
  refine lv_aload_n hx hb dL_lays_279 rfl (lv_at hl 2 rfl) ?_
  refine lv_bipush (v := 8) hx hb dL_lays_280 (by decide) ?_
  refine lv_iload hx hb dL_lays_282 (lv_at hl 3 rfl) ?_
  refine lv_imul hx hb dL_lays_284 ?_
  refine lv_bipush (v := 6) hx hb dL_lays_285 (by decide) ?_
  refine lv_iadd hx hb dL_lays_287 ?_
  refine lv_iload hx hb dL_lays_288 (lv_at hl 0 rfl) ?_
  refine lv_if_eq (tgt := 298) hx hb dL_lays_290 (by decide) (fun g1 => ?_) (fun g1 => ?_)
  · have h := wk_p g1 h
    refine lv_iload hx hb dL_lays_298 (lv_at hl 5 rfl) ?_
    exact w_L_lays_300 CX RT h (lv_sub hl [1, 3, 4, 5, 0] rfl) hP hS
  · have h := wk_n g1 h
    refine lv_iload hx hb dL_lays_293 (lv_at hl 4 rfl) ?_
    refine lv_goto (tgt := 300) hx hb dL_lays_295 (by decide) ?_
    exact w_L_lays_300 CX RT h (lv_sub hl [1, 3, 4, 5, 0] rfl) hP hS
set_option maxRecDepth 100000 in
set_option maxHeartbeats 4000000 in
theorem w_L_lays_276 {r0 : Int32} (CX : wk_X p l e R s m args below meth c cells slots Q cL_lays 11 RL wsL_lays D y B Lk A 5 130) (RT : wk_Rz p l e R s m args below meth c cells slots Q cL_lays D y B Lk A r0 MM) {v7 : Int32} {v8 : Int32} {v9 : Int32} {M : wk_T} {H : Heap} {locs : List Loc} {ls : Array Slot} (h : f_L_lays_276 v7 v8 v9 M = some (r0, MM)) (hl : lv_has ls 11 [(0, .ref (B 9 0 0)), (2, .ref (B 15 0 0)), (7, .int v7), (8, .int v8), (9, .int v9)]) (hP : wk_H D y B Lk M H) (hS : va_S A s.heap H locs) : W p l e R s m args below meth c H locs cells slots Q (F0 m 276 ls []) := by
  obtain ⟨⟨hx, hb, hml, hown, hts⟩, hK, hI, hL, hA, hfr, hlo, hcs⟩ := id CX
  unfold f_L_lays_276 at h
  refine lv_iconst (v := 0) hx hb dL_lays_276 (by decide) ?_
  exact w_L_lays_277 CX RT h (lv_sub hl [0, 1, 2, 3, 4] rfl) hP hS
set_option maxRecDepth 100000 in
set_option maxHeartbeats 4000000 in
theorem w_L_lays_414 {r0 : Int32} (CX : wk_X p l e R s m args below meth c cells slots Q cL_lays 11 RL wsL_lays D y B Lk A 5 130) (RT : wk_Rz p l e R s m args below meth c cells slots Q cL_lays D y B Lk A r0 MM) {k384 : Int32 → Int32 → Int32 → Int32 → wk_T → Option (Int32 × wk_T)} (hk384 : ∀ (v7 : Int32) (v8 : Int32) (v9 : Int32) (v10 : Int32) (M : wk_T) (H : Heap) (locs : List Loc) (ls : Array Slot), k384 v7 v8 v9 v10 M = some (r0, MM) → lv_has ls 11 [(0, .ref (B 9 0 0)), (1, .ref (B 14 0 0)), (2, .ref (B 15 0 0)), (7, .int v7), (8, .int v8), (9, .int v9), (10, .int v10)] → wk_H D y B Lk M H → va_S A s.heap H locs → W p l e R s m args below meth c H locs cells slots Q (F0 m 384 ls [])) {v7 : Int32} {v8 : Int32} {v10 : Int32} {s0 : Int32} {s1 : Int32} {M : wk_T} {H : Heap} {locs : List Loc} {ls : Array Slot} (h : f_L_lays_414 k384 v7 v8 v10 s0 s1 M = some (r0, MM)) (hl : lv_has ls 11 [(0, .ref (B 9 0 0)), (1, .ref (B 14 0 0)), (2, .ref (B 15 0 0)), (7, .int v7), (8, .int v8), (10, .int v10)]) (hP : wk_H D y B Lk M H) (hS : va_S A s.heap H locs) : W p l e R s m args below meth c H locs cells slots Q (F0 m 414 ls [.int s1, .int s0]) := by
  obtain ⟨⟨hx, hb, hml, hown, hts⟩, hK, hI, hL, hA, hfr, hlo, hcs⟩ := id CX
  unfold f_L_lays_414 at h
  refine lv_iadd hx hb dL_lays_414 ?_
  obtain ⟨x1, ex1, h⟩ := wk_lt_e h
  refine wk_topi ex1 ?_
  refine lv_istore (lv' := [(9, .int x1), (0, .ref (B 9 0 0)), (1, .ref (B 14 0 0)), (2, .ref (B 15 0 0)), (7, .int v7), (8, .int v8), (10, .int v10)]) hx hb dL_lays_415 hl (by decide) rfl (fun ls hl => ?_)
  obtain ⟨x2, ex2, h⟩ := wk_lt_e h
  refine lv_iinc (v := x2) (lv' := [(10, .int x2), (9, .int x1), (0, .ref (B 9 0 0)), (1, .ref (B 14 0 0)), (2, .ref (B 15 0 0)), (7, .int v7), (8, .int v8)]) hx hb dL_lays_417 hl (k := 6) rfl (by rw [← ex2]; rfl) (by decide) rfl (fun ls hl => ?_)
  refine lv_goto (tgt := 384) hx hb dL_lays_420 (by decide) ?_
  exact hk384 _ _ _ _ _ _ _ _ h (lv_sub hl [2, 3, 4, 5, 6, 1, 0] rfl) hP hS
set_option maxRecDepth 100000 in
set_option maxHeartbeats 4000000 in
theorem w_L_lays_494 {r0 : Int32} (CX : wk_X p l e R s m args below meth c cells slots Q cL_lays 11 RL wsL_lays D y B Lk A 5 130) (RT : wk_Rz p l e R s m args below meth c cells slots Q cL_lays D y B Lk A r0 MM) {s0 : Int32} {s1 : Int32} {M : wk_T} {H : Heap} {locs : List Loc} {ls : Array Slot} (h : f_L_lays_494 s0 s1 M = some (r0, MM)) (hl : lv_has ls 11 []) (hP : wk_H D y B Lk M H) (hS : va_S A s.heap H locs) : W p l e R s m args below meth c H locs cells slots Q (F0 m 494 ls [.int s1, .int s0]) := by
  obtain ⟨⟨hx, hb, hml, hown, hts⟩, hK, hI, hL, hA, hfr, hlo, hcs⟩ := id CX
  unfold f_L_lays_494 at h
  refine lv_icmp_ne (tgt := 501) hx hb dL_lays_494 (by decide) (fun g1 => ?_) (fun g1 => ?_)
  · have h := wk_n g1 h
    refine lv_iconst (v := 0) hx hb dL_lays_501 (by decide) ?_
    exact RT _ _ _ _ _ _ (Or.inl rfl) h hP hS dL_lays_502
  · have h := wk_p g1 h
    refine lv_iconst (v := 1) hx hb dL_lays_497 (by decide) ?_
    refine lv_goto (tgt := 502) hx hb dL_lays_498 (by decide) ?_
    exact RT _ _ _ _ _ _ (Or.inr rfl) h hP hS dL_lays_502
set_option maxRecDepth 100000 in
set_option maxHeartbeats 4000000 in
theorem w_L_lays_487 {r0 : Int32} (CX : wk_X p l e R s m args below meth c cells slots Q cL_lays 11 RL wsL_lays D y B Lk A 5 130) (RT : wk_Rz p l e R s m args below meth c cells slots Q cL_lays D y B Lk A r0 MM) {s0 : Int32} {M : wk_T} {H : Heap} {locs : List Loc} {ls : Array Slot} (h : f_L_lays_487 s0 M = some (r0, MM)) (hl : lv_has ls 11 []) (hP : wk_H D y B Lk M H) (hS : va_S A s.heap H locs) : W p l e R s m args below meth c H locs cells slots Q (F0 m 487 ls [.int s0]) := by
  obtain ⟨⟨hx, hb, hml, hown, hts⟩, hK, hI, hL, hA, hfr, hlo, hcs⟩ := id CX
  unfold f_L_lays_487 at h
  refine lv_bipush (v := (-2)) hx hb dL_lays_487 (by decide) ?_
  refine lv_goto (tgt := 494) hx hb dL_lays_489 (by decide) ?_
  exact w_L_lays_494 CX RT h (lv_sub hl [] rfl) hP hS
set_option maxRecDepth 100000 in
set_option maxHeartbeats 4000000 in
theorem w_L_lays_454 {r0 : Int32} (CX : wk_X p l e R s m args below meth c cells slots Q cL_lays 11 RL wsL_lays D y B Lk A 5 130) (RT : wk_Rz p l e R s m args below meth c cells slots Q cL_lays D y B Lk A r0 MM) {v7 : Int32} {v8 : Int32} {M : wk_T} {H : Heap} {locs : List Loc} {ls : Array Slot} (h : f_L_lays_454 v7 v8 M = some (r0, MM)) (hl : lv_has ls 11 [(0, .ref (B 9 0 0)), (2, .ref (B 15 0 0)), (7, .int v7), (8, .int v8)]) (hP : wk_H D y B Lk M H) (hS : va_S A s.heap H locs) : W p l e R s m args below meth c H locs cells slots Q (F0 m 454 ls []) := by
  obtain ⟨⟨hx, hb, hml, hown, hts⟩, hK, hI, hL, hA, hfr, hlo, hcs⟩ := id CX
  unfold f_L_lays_454 at h
  refine lv_aload_n hx hb dL_lays_454 rfl (lv_at hl 0 rfl) ?_
  refine lv_iload hx hb dL_lays_455 (lv_at hl 2 rfl) ?_
  refine lv_iload hx hb dL_lays_457 (lv_at hl 3 rfl) ?_
  obtain ⟨r1, M2, er1, h⟩ := wk_cl_e h
  refine wk_cVi (As := [.int v7, .int v8]) (rest := []) ⟨hx, hb, hml, hown, hts⟩ (m_X3_plug l hI hL er1) (cwV 2 hts gL_lays_X3_plug rfl rfl rfl (by decide +kernel) ⟨Nat.le_trans (by decide) hfr, Nat.le_trans (by decide) hlo⟩) hK hP hS hA (wk_l9 hL 9 (by decide) (by decide)) wk_c9 rfl rfl hl.1 (lv_room (Nat.le_of_ble_eq_true rfl)) hcs dL_lays_459 (fun H locs hP hS => ?_)
  refine lv_aload_n hx hb dL_lays_462 rfl (lv_at hl 1 rfl) ?_
  refine lv_bipush (v := 8) hx hb dL_lays_463 (by decide) ?_
  refine lv_iload hx hb dL_lays_465 (lv_at hl 2 rfl) ?_
  refine lv_imul hx hb dL_lays_467 ?_
  refine lv_bipush (v := 7) hx hb dL_lays_468 (by decide) ?_
  refine lv_iadd hx hb dL_lays_470 ?_
  obtain ⟨g3, h⟩ := wk_gd_e h
  refine wk_iald (j := ((8 * v7) + 7).toNatClampNeg) hx hb hK hP (wk_lL hL 15 (by decide) (by decide)) wk_c15 g3 rfl dL_lays_471 ?_
  refine lv_if_ge (tgt := 487) hx hb dL_lays_472 (by decide) (fun g4 => ?_) (fun g4 => ?_)
  · have h := wk_p g4 h
    exact w_L_lays_487 CX RT h (lv_sub hl [] rfl) hP hS
  · have h := wk_n g4 h
    refine lv_iload hx hb dL_lays_475 (lv_at hl 3 rfl) ?_
    refine lv_aload_n hx hb dL_lays_477 rfl (lv_at hl 1 rfl) ?_
    refine lv_bipush (v := 8) hx hb dL_lays_478 (by decide) ?_
    refine lv_iload hx hb dL_lays_480 (lv_at hl 2 rfl) ?_
    refine lv_imul hx hb dL_lays_482 ?_
    obtain ⟨g5, h⟩ := wk_gd_e h
    refine wk_iald (j := (8 * v7).toNatClampNeg) hx hb hK hP (wk_lL hL 15 (by decide) (by decide)) wk_c15 g5 rfl dL_lays_483 ?_
    refine lv_icmp_eq (tgt := 492) hx hb dL_lays_484 (by decide) (fun g6 => ?_) (fun g6 => ?_)
    · have h := wk_p g6 h
      refine lv_bipush (v := (-3)) hx hb dL_lays_492 (by decide) ?_
      exact w_L_lays_494 CX RT h (lv_sub hl [] rfl) hP hS
    · have h := wk_n g6 h
      exact w_L_lays_487 CX RT h (lv_sub hl [] rfl) hP hS
set_option maxRecDepth 100000 in
set_option maxHeartbeats 4000000 in
theorem w_L_lays_384 {r0 : Int32} (CX : wk_X p l e R s m args below meth c cells slots Q cL_lays 11 RL wsL_lays D y B Lk A 5 130) (RT : wk_Rz p l e R s m args below meth c cells slots Q cL_lays D y B Lk A r0 MM) : ∀ (n : Nat) (v7 : Int32) (v8 : Int32) (v9 : Int32) (v10 : Int32) (M : wk_T) (H : Heap) (locs : List Loc) (ls : Array Slot), f_L_lays_384 n v7 v8 v9 v10 M = some (r0, MM) → lv_has ls 11 [(0, .ref (B 9 0 0)), (1, .ref (B 14 0 0)), (2, .ref (B 15 0 0)), (7, .int v7), (8, .int v8), (9, .int v9), (10, .int v10)] → wk_H D y B Lk M H → va_S A s.heap H locs → W p l e R s m args below meth c H locs cells slots Q (F0 m 384 ls []) := by
  obtain ⟨⟨hx, hb, hml, hown, hts⟩, hK, hI, hL, hA, hfr, hlo, hcs⟩ := id CX
  intro n
  induction n with
  | zero =>
    intro v7 v8 v9 v10 M H locs ls h
    exact absurd h (by rw [f_L_lays_384]; exact fun z => nomatch z)
  | succ n ih =>
    intro v7 v8 v9 v10 M H locs ls h hl hP hS
    rw [f_L_lays_384] at h
    refine lv_iload hx hb dL_lays_384 (lv_at hl 6 rfl) ?_
    refine lv_aload_n hx hb dL_lays_386 rfl (lv_at hl 1 rfl) ?_
    refine lv_iconst (v := 0) hx hb dL_lays_387 (by decide) ?_
    refine wk_iald (j := 0) hx hb hK hP (wk_lL hL 14 (by decide) (by decide)) wk_c14 (by decide) (by decide) dL_lays_388 ?_
    refine lv_icmp_ge (tgt := 423) hx hb dL_lays_389 (by decide) (fun g1 => ?_) (fun g1 => ?_)
    · have h := wk_p g1 h
      refine lv_aload_n hx hb dL_lays_423 rfl (lv_at hl 2 rfl) ?_
      refine lv_bipush (v := 8) hx hb dL_lays_424 (by decide) ?_
      refine lv_iload hx hb dL_lays_426 (lv_at hl 3 rfl) ?_
      refine lv_imul hx hb dL_lays_428 ?_
      refine lv_bipush (v := 7) hx hb dL_lays_429 (by decide) ?_
      refine lv_iadd hx hb dL_lays_431 ?_
      obtain ⟨g2, h⟩ := wk_gd_e h
      refine wk_iald (j := ((8 * v7) + 7).toNatClampNeg) hx hb hK hP (wk_lL hL 15 (by decide) (by decide)) wk_c15 g2 rfl dL_lays_432 ?_
      refine lv_if_ge (tgt := 454) hx hb dL_lays_433 (by decide) (fun g3 => ?_) (fun g3 => ?_)
      · have h := wk_p g3 h
        exact w_L_lays_454 CX RT h (lv_sub hl [0, 2, 3, 4] rfl) hP hS
      · have h := wk_n g3 h
        refine lv_iload hx hb dL_lays_436 (lv_at hl 4 rfl) ?_
        refine lv_aload_n hx hb dL_lays_438 rfl (lv_at hl 2 rfl) ?_
        refine lv_bipush (v := 8) hx hb dL_lays_439 (by decide) ?_
        refine lv_iload hx hb dL_lays_441 (lv_at hl 3 rfl) ?_
        refine lv_imul hx hb dL_lays_443 ?_
        obtain ⟨g4, h⟩ := wk_gd_e h
        refine wk_iald (j := (8 * v7).toNatClampNeg) hx hb hK hP (wk_lL hL 15 (by decide) (by decide)) wk_c15 g4 rfl dL_lays_444 ?_
        refine lv_icmp_ne (tgt := 454) hx hb dL_lays_445 (by decide) (fun g5 => ?_) (fun g5 => ?_)
        · have h := wk_n g5 h
          exact w_L_lays_454 CX RT h (lv_sub hl [0, 2, 3, 4] rfl) hP hS
        · have h := wk_p g5 h
          refine lv_iload hx hb dL_lays_448 (lv_at hl 5 rfl) ?_
          refine lv_iconst (v := 4) hx hb dL_lays_450 (by decide) ?_
          refine lv_icmp_ne (tgt := 503) hx hb dL_lays_451 (by decide) (fun g6 => ?_) (fun g6 => ?_)
          · have h := wk_n g6 h
            refine lv_aload_n hx hb dL_lays_503 rfl (lv_at hl 2 rfl) ?_
            refine lv_bipush (v := 8) hx hb dL_lays_504 (by decide) ?_
            refine lv_iload hx hb dL_lays_506 (lv_at hl 3 rfl) ?_
            refine lv_imul hx hb dL_lays_508 ?_
            refine lv_bipush (v := 7) hx hb dL_lays_509 (by decide) ?_
            refine lv_iadd hx hb dL_lays_511 ?_
            refine lv_iload hx hb dL_lays_512 (lv_at hl 4 rfl) ?_
            obtain ⟨g7, h⟩ := wk_gd_e h
            obtain ⟨M8, eM8, h⟩ := wk_mu_e h
            refine wk_iast (j := ((8 * v7) + 7).toNatClampNeg) hx hb hK hP hI hS hA (wk_lL hL 15 (by decide) (by decide)) wk_c15 g7 rfl (by rfl) dL_lays_514 (fun H locs hP hS => ?_)
            rw [eM8] at hP
            refine lv_aload_n hx hb dL_lays_515 rfl (lv_at hl 0 rfl) ?_
            refine lv_iload hx hb dL_lays_516 (lv_at hl 3 rfl) ?_
            refine lv_iload hx hb dL_lays_518 (lv_at hl 4 rfl) ?_
            obtain ⟨r9, M10, er9, h⟩ := wk_cl_e h
            refine wk_cVi (As := [.int v7, .int v8]) (rest := []) ⟨hx, hb, hml, hown, hts⟩ (m_X3_plug l hI hL er9) (cwV 2 hts gL_lays_X3_plug rfl rfl rfl (by decide +kernel) ⟨Nat.le_trans (by decide) hfr, Nat.le_trans (by decide) hlo⟩) hK hP hS hA (wk_l9 hL 9 (by decide) (by decide)) wk_c9 rfl rfl hl.1 (lv_room (Nat.le_of_ble_eq_true rfl)) hcs dL_lays_520 (fun H locs hP hS => ?_)
            refine lv_iload hx hb dL_lays_523 (lv_at hl 5 rfl) ?_
            refine lv_iconst (v := 1) hx hb dL_lays_525 (by decide) ?_
            refine lv_iadd hx hb dL_lays_526 ?_
            refine lv_icmp_ne (tgt := 534) hx hb dL_lays_527 (by decide) (fun g11 => ?_) (fun g11 => ?_)
            · have h := wk_n g11 h
              refine lv_iconst (v := 0) hx hb dL_lays_534 (by decide) ?_
              exact RT _ _ _ _ _ _ (Or.inl rfl) h hP hS dL_lays_535
            · have h := wk_p g11 h
              refine lv_iconst (v := 1) hx hb dL_lays_530 (by decide) ?_
              refine lv_goto (tgt := 535) hx hb dL_lays_531 (by decide) ?_
              exact RT _ _ _ _ _ _ (Or.inr rfl) h hP hS dL_lays_535
          · have h := wk_p g6 h
            exact w_L_lays_454 CX RT h (lv_sub hl [0, 2, 3, 4] rfl) hP hS
    · have h := wk_n g1 h
      refine lv_iload hx hb dL_lays_392 (lv_at hl 5 rfl) ?_
      refine lv_aload_n hx hb dL_lays_394 rfl (lv_at hl 2 rfl) ?_
      refine lv_bipush (v := 8) hx hb dL_lays_395 (by decide) ?_
      refine lv_iload hx hb dL_lays_397 (lv_at hl 6 rfl) ?_
      refine lv_imul hx hb dL_lays_399 ?_
      refine lv_bipush (v := 7) hx hb dL_lays_400 (by decide) ?_
      refine lv_iadd hx hb dL_lays_402 ?_
      obtain ⟨g12, h⟩ := wk_gd_e h
      refine wk_iald (j := ((8 * v10) + 7).toNatClampNeg) hx hb hK hP (wk_lL hL 15 (by decide) (by decide)) wk_c15 g12 rfl dL_lays_403 ?_
      refine lv_iload hx hb dL_lays_404 (lv_at hl 4 rfl) ?_
      refine lv_icmp_ne (tgt := 413) hx hb dL_lays_406 (by decide) (fun g13 => ?_) (fun g13 => ?_)
      · have h := wk_n g13 h
        refine lv_iconst (v := 0) hx hb dL_lays_413 (by decide) ?_
        exact w_L_lays_414 CX RT ih h (lv_sub hl [0, 1, 2, 3, 4, 6] rfl) hP hS
      · have h := wk_p g13 h
        refine lv_iconst (v := 1) hx hb dL_lays_409 (by decide) ?_
        refine lv_goto (tgt := 414) hx hb dL_lays_410 (by decide) ?_
        exact w_L_lays_414 CX RT ih h (lv_sub hl [0, 1, 2, 3, 4, 6] rfl) hP hS
set_option maxRecDepth 100000 in
set_option maxHeartbeats 4000000 in
theorem w_L_lays_376 {r0 : Int32} (CX : wk_X p l e R s m args below meth c cells slots Q cL_lays 11 RL wsL_lays D y B Lk A 5 130) (RT : wk_Rz p l e R s m args below meth c cells slots Q cL_lays D y B Lk A r0 MM) {v7 : Int32} {s0 : Int32} {M : wk_T} {H : Heap} {locs : List Loc} {ls : Array Slot} (h : f_L_lays_376 v7 s0 M = some (r0, MM)) (hl : lv_has ls 11 [(0, .ref (B 9 0 0)), (1, .ref (B 14 0 0)), (2, .ref (B 15 0 0)), (7, .int v7)]) (hP : wk_H D y B Lk M H) (hS : va_S A s.heap H locs) : W p l e R s m args below meth c H locs cells slots Q (F0 m 376 ls [.int s0]) := by
  obtain ⟨⟨hx, hb, hml, hown, hts⟩, hK, hI, hL, hA, hfr, hlo, hcs⟩ := id CX
  unfold f_L_lays_376 at h
  refine lv_istore (lv' := [(8, .int s0), (0, .ref (B 9 0 0)), (1, .ref (B 14 0 0)), (2, .ref (B 15 0 0)), (7, .int v7)]) hx hb dL_lays_376 hl (by decide) rfl (fun ls hl => ?_)
  refine lv_iconst (v := 0) hx hb dL_lays_378 (by decide) ?_
  refine lv_istore (lv' := [(9, .int 0), (8, .int s0), (0, .ref (B 9 0 0)), (1, .ref (B 14 0 0)), (2, .ref (B 15 0 0)), (7, .int v7)]) hx hb dL_lays_379 hl (by decide) rfl (fun ls hl => ?_)
  refine lv_iconst (v := 0) hx hb dL_lays_381 (by decide) ?_
  refine lv_istore (lv' := [(10, .int 0), (9, .int 0), (8, .int s0), (0, .ref (B 9 0 0)), (1, .ref (B 14 0 0)), (2, .ref (B 15 0 0)), (7, .int v7)]) hx hb dL_lays_382 hl (by decide) rfl (fun ls hl => ?_)
  exact w_L_lays_384 CX RT wk_fuel _ _ _ _ _ _ _ _ h (lv_sub hl [3, 4, 5, 6, 2, 1, 0] rfl) hP hS
set_option maxRecDepth 100000 in
set_option maxHeartbeats 4000000 in
theorem w_L_lays_569 {r0 : Int32} (CX : wk_X p l e R s m args below meth c cells slots Q cL_lays 11 RL wsL_lays D y B Lk A 5 130) (RT : wk_Rz p l e R s m args below meth c cells slots Q cL_lays D y B Lk A r0 MM) {v7 : Int32} {M : wk_T} {H : Heap} {locs : List Loc} {ls : Array Slot} (h : f_L_lays_569 v7 M = some (r0, MM)) (hl : lv_has ls 11 [(0, .ref (B 9 0 0)), (7, .int v7)]) (hP : wk_H D y B Lk M H) (hS : va_S A s.heap H locs) : W p l e R s m args below meth c H locs cells slots Q (F0 m 569 ls []) := by
  obtain ⟨⟨hx, hb, hml, hown, hts⟩, hK, hI, hL, hA, hfr, hlo, hcs⟩ := id CX
  unfold f_L_lays_569 at h
  refine lv_aload_n hx hb dL_lays_569 rfl (lv_at hl 0 rfl) ?_
  refine lv_iload hx hb dL_lays_570 (lv_at hl 1 rfl) ?_
  obtain ⟨r1, M2, er1, h⟩ := wk_cl_e h
  refine wk_cVi (As := [.int v7]) (rest := []) ⟨hx, hb, hml, hown, hts⟩ (m_X3_unplug l hI hL er1) (cwV 1 hts gL_lays_X3_unplug rfl rfl rfl (by decide +kernel) ⟨Nat.le_trans (by decide) hfr, Nat.le_trans (by decide) hlo⟩) hK hP hS hA (wk_l9 hL 9 (by decide) (by decide)) wk_c9 rfl rfl hl.1 (lv_room (Nat.le_of_ble_eq_true rfl)) hcs dL_lays_572 (fun H locs hP hS => ?_)
  refine lv_bipush (v := (-2)) hx hb dL_lays_575 (by decide) ?_
  refine lv_icmp_ne (tgt := 584) hx hb dL_lays_577 (by decide) (fun g3 => ?_) (fun g3 => ?_)
  · have h := wk_n g3 h
    refine lv_iconst (v := 0) hx hb dL_lays_584 (by decide) ?_
    exact RT _ _ _ _ _ _ (Or.inl rfl) h hP hS dL_lays_585
  · have h := wk_p g3 h
    refine lv_iconst (v := 1) hx hb dL_lays_580 (by decide) ?_
    refine lv_goto (tgt := 585) hx hb dL_lays_581 (by decide) ?_
    exact RT _ _ _ _ _ _ (Or.inr rfl) h hP hS dL_lays_585
set_option maxRecDepth 100000 in
set_option maxHeartbeats 4000000 in
theorem w_L_lays_629 {r0 : Int32} (CX : wk_X p l e R s m args below meth c cells slots Q cL_lays 11 RL wsL_lays D y B Lk A 5 130) (RT : wk_Rz p l e R s m args below meth c cells slots Q cL_lays D y B Lk A r0 MM) {k592 : Int32 → Int32 → Int32 → Int32 → wk_T → Option (Int32 × wk_T)} (hk592 : ∀ (v7 : Int32) (v8 : Int32) (v9 : Int32) (v10 : Int32) (M : wk_T) (H : Heap) (locs : List Loc) (ls : Array Slot), k592 v7 v8 v9 v10 M = some (r0, MM) → lv_has ls 11 [(0, .ref (B 9 0 0)), (1, .ref (B 14 0 0)), (2, .ref (B 15 0 0)), (7, .int v7), (8, .int v8), (9, .int v9), (10, .int v10)] → wk_H D y B Lk M H → va_S A s.heap H locs → W p l e R s m args below meth c H locs cells slots Q (F0 m 592 ls [])) {v7 : Int32} {v8 : Int32} {v10 : Int32} {s0 : Int32} {s1 : Int32} {M : wk_T} {H : Heap} {locs : List Loc} {ls : Array Slot} (h : f_L_lays_629 k592 v7 v8 v10 s0 s1 M = some (r0, MM)) (hl : lv_has ls 11 [(0, .ref (B 9 0 0)), (1, .ref (B 14 0 0)), (2, .ref (B 15 0 0)), (7, .int v7), (8, .int v8), (10, .int v10)]) (hP : wk_H D y B Lk M H) (hS : va_S A s.heap H locs) : W p l e R s m args below meth c H locs cells slots Q (F0 m 629 ls [.int s1, .int s0]) := by
  obtain ⟨⟨hx, hb, hml, hown, hts⟩, hK, hI, hL, hA, hfr, hlo, hcs⟩ := id CX
  unfold f_L_lays_629 at h
  refine lv_iadd hx hb dL_lays_629 ?_
  obtain ⟨x1, ex1, h⟩ := wk_lt_e h
  refine wk_topi ex1 ?_
  refine lv_istore (lv' := [(9, .int x1), (0, .ref (B 9 0 0)), (1, .ref (B 14 0 0)), (2, .ref (B 15 0 0)), (7, .int v7), (8, .int v8), (10, .int v10)]) hx hb dL_lays_630 hl (by decide) rfl (fun ls hl => ?_)
  obtain ⟨x2, ex2, h⟩ := wk_lt_e h
  refine lv_iinc (v := x2) (lv' := [(10, .int x2), (9, .int x1), (0, .ref (B 9 0 0)), (1, .ref (B 14 0 0)), (2, .ref (B 15 0 0)), (7, .int v7), (8, .int v8)]) hx hb dL_lays_632 hl (k := 6) rfl (by rw [← ex2]; rfl) (by decide) rfl (fun ls hl => ?_)
  refine lv_goto (tgt := 592) hx hb dL_lays_635 (by decide) ?_
  exact hk592 _ _ _ _ _ _ _ _ h (lv_sub hl [2, 3, 4, 5, 6, 1, 0] rfl) hP hS
set_option maxRecDepth 100000 in
set_option maxHeartbeats 4000000 in
theorem w_L_lays_628 {r0 : Int32} (CX : wk_X p l e R s m args below meth c cells slots Q cL_lays 11 RL wsL_lays D y B Lk A 5 130) (RT : wk_Rz p l e R s m args below meth c cells slots Q cL_lays D y B Lk A r0 MM) {k592 : Int32 → Int32 → Int32 → Int32 → wk_T → Option (Int32 × wk_T)} (hk592 : ∀ (v7 : Int32) (v8 : Int32) (v9 : Int32) (v10 : Int32) (M : wk_T) (H : Heap) (locs : List Loc) (ls : Array Slot), k592 v7 v8 v9 v10 M = some (r0, MM) → lv_has ls 11 [(0, .ref (B 9 0 0)), (1, .ref (B 14 0 0)), (2, .ref (B 15 0 0)), (7, .int v7), (8, .int v8), (9, .int v9), (10, .int v10)] → wk_H D y B Lk M H → va_S A s.heap H locs → W p l e R s m args below meth c H locs cells slots Q (F0 m 592 ls [])) {v7 : Int32} {v8 : Int32} {v10 : Int32} {s0 : Int32} {M : wk_T} {H : Heap} {locs : List Loc} {ls : Array Slot} (h : f_L_lays_628 k592 v7 v8 v10 s0 M = some (r0, MM)) (hl : lv_has ls 11 [(0, .ref (B 9 0 0)), (1, .ref (B 14 0 0)), (2, .ref (B 15 0 0)), (7, .int v7), (8, .int v8), (10, .int v10)]) (hP : wk_H D y B Lk M H) (hS : va_S A s.heap H locs) : W p l e R s m args below meth c H locs cells slots Q (F0 m 628 ls [.int s0]) := by
  obtain ⟨⟨hx, hb, hml, hown, hts⟩, hK, hI, hL, hA, hfr, hlo, hcs⟩ := id CX
  unfold f_L_lays_628 at h
  refine lv_iconst (v := 0) hx hb dL_lays_628 (by decide) ?_
  exact w_L_lays_629 CX RT hk592 h (lv_sub hl [0, 1, 2, 3, 4, 5] rfl) hP hS
set_option maxRecDepth 100000 in
set_option maxHeartbeats 4000000 in
theorem w_L_lays_592 {r0 : Int32} (CX : wk_X p l e R s m args below meth c cells slots Q cL_lays 11 RL wsL_lays D y B Lk A 5 130) (RT : wk_Rz p l e R s m args below meth c cells slots Q cL_lays D y B Lk A r0 MM) : ∀ (n : Nat) (v7 : Int32) (v8 : Int32) (v9 : Int32) (v10 : Int32) (M : wk_T) (H : Heap) (locs : List Loc) (ls : Array Slot), f_L_lays_592 n v7 v8 v9 v10 M = some (r0, MM) → lv_has ls 11 [(0, .ref (B 9 0 0)), (1, .ref (B 14 0 0)), (2, .ref (B 15 0 0)), (7, .int v7), (8, .int v8), (9, .int v9), (10, .int v10)] → wk_H D y B Lk M H → va_S A s.heap H locs → W p l e R s m args below meth c H locs cells slots Q (F0 m 592 ls []) := by
  obtain ⟨⟨hx, hb, hml, hown, hts⟩, hK, hI, hL, hA, hfr, hlo, hcs⟩ := id CX
  intro n
  induction n with
  | zero =>
    intro v7 v8 v9 v10 M H locs ls h
    exact absurd h (by rw [f_L_lays_592]; exact fun z => nomatch z)
  | succ n ih =>
    intro v7 v8 v9 v10 M H locs ls h hl hP hS
    rw [f_L_lays_592] at h
    refine lv_iload hx hb dL_lays_592 (lv_at hl 6 rfl) ?_
    refine lv_aload_n hx hb dL_lays_594 rfl (lv_at hl 1 rfl) ?_
    refine lv_iconst (v := 0) hx hb dL_lays_595 (by decide) ?_
    refine wk_iald (j := 0) hx hb hK hP (wk_lL hL 14 (by decide) (by decide)) wk_c14 (by decide) (by decide) dL_lays_596 ?_
    refine lv_icmp_ge (tgt := 638) hx hb dL_lays_597 (by decide) (fun g1 => ?_) (fun g1 => ?_)
    · have h := wk_p g1 h
      refine lv_aload_n hx hb dL_lays_638 rfl (lv_at hl 2 rfl) ?_
      refine lv_bipush (v := 8) hx hb dL_lays_639 (by decide) ?_
      refine lv_iload hx hb dL_lays_641 (lv_at hl 3 rfl) ?_
      refine lv_imul hx hb dL_lays_643 ?_
      refine lv_bipush (v := 7) hx hb dL_lays_644 (by decide) ?_
      refine lv_iadd hx hb dL_lays_646 ?_
      refine lv_iconst (v := (-1)) hx hb dL_lays_647 (by decide) ?_
      obtain ⟨g2, h⟩ := wk_gd_e h
      obtain ⟨M3, eM3, h⟩ := wk_mu_e h
      refine wk_iast (j := ((8 * v7) + 7).toNatClampNeg) hx hb hK hP hI hS hA (wk_lL hL 15 (by decide) (by decide)) wk_c15 g2 rfl (by rfl) dL_lays_648 (fun H locs hP hS => ?_)
      rw [eM3] at hP
      refine lv_aload_n hx hb dL_lays_649 rfl (lv_at hl 0 rfl) ?_
      refine lv_iload hx hb dL_lays_650 (lv_at hl 3 rfl) ?_
      obtain ⟨r4, M5, er4, h⟩ := wk_cl_e h
      refine wk_cVi (As := [.int v7]) (rest := []) ⟨hx, hb, hml, hown, hts⟩ (m_X3_unplug l hI hL er4) (cwV 1 hts gL_lays_X3_unplug rfl rfl rfl (by decide +kernel) ⟨Nat.le_trans (by decide) hfr, Nat.le_trans (by decide) hlo⟩) hK hP hS hA (wk_l9 hL 9 (by decide) (by decide)) wk_c9 rfl rfl hl.1 (lv_room (Nat.le_of_ble_eq_true rfl)) hcs dL_lays_652 (fun H locs hP hS => ?_)
      refine lv_iload hx hb dL_lays_655 (lv_at hl 5 rfl) ?_
      refine lv_icmp_ne (tgt := 664) hx hb dL_lays_657 (by decide) (fun g6 => ?_) (fun g6 => ?_)
      · have h := wk_n g6 h
        refine lv_iconst (v := 0) hx hb dL_lays_664 (by decide) ?_
        exact RT _ _ _ _ _ _ (Or.inl rfl) h hP hS dL_lays_665
      · have h := wk_p g6 h
        refine lv_iconst (v := 1) hx hb dL_lays_660 (by decide) ?_
        refine lv_goto (tgt := 665) hx hb dL_lays_661 (by decide) ?_
        exact RT _ _ _ _ _ _ (Or.inr rfl) h hP hS dL_lays_665
    · have h := wk_n g1 h
      refine lv_iload hx hb dL_lays_600 (lv_at hl 5 rfl) ?_
      refine lv_aload_n hx hb dL_lays_602 rfl (lv_at hl 2 rfl) ?_
      refine lv_bipush (v := 8) hx hb dL_lays_603 (by decide) ?_
      refine lv_iload hx hb dL_lays_605 (lv_at hl 6 rfl) ?_
      refine lv_imul hx hb dL_lays_607 ?_
      refine lv_bipush (v := 7) hx hb dL_lays_608 (by decide) ?_
      refine lv_iadd hx hb dL_lays_610 ?_
      obtain ⟨g7, h⟩ := wk_gd_e h
      refine wk_iald (j := ((8 * v10) + 7).toNatClampNeg) hx hb hK hP (wk_lL hL 15 (by decide) (by decide)) wk_c15 g7 rfl dL_lays_611 ?_
      refine lv_iload hx hb dL_lays_612 (lv_at hl 4 rfl) ?_
      refine lv_icmp_ne (tgt := 628) hx hb dL_lays_614 (by decide) (fun g8 => ?_) (fun g8 => ?_)
      · have h := wk_n g8 h
        exact w_L_lays_628 CX RT ih h (lv_sub hl [0, 1, 2, 3, 4, 6] rfl) hP hS
      · have h := wk_p g8 h
        refine lv_iload hx hb dL_lays_617 (lv_at hl 6 rfl) ?_
        refine lv_iload hx hb dL_lays_619 (lv_at hl 3 rfl) ?_
        refine lv_icmp_eq (tgt := 628) hx hb dL_lays_621 (by decide) (fun g9 => ?_) (fun g9 => ?_)
        · have h := wk_p g9 h
          exact w_L_lays_628 CX RT ih h (lv_sub hl [0, 1, 2, 3, 4, 6] rfl) hP hS
        · have h := wk_n g9 h
          refine lv_iconst (v := 1) hx hb dL_lays_624 (by decide) ?_
          refine lv_goto (tgt := 629) hx hb dL_lays_625 (by decide) ?_
          exact w_L_lays_629 CX RT ih h (lv_sub hl [0, 1, 2, 3, 4, 6] rfl) hP hS
set_option maxRecDepth 100000 in
set_option maxHeartbeats 4000000 in
theorem w_L_lays_0 {r0 : Int32} (CX : wk_X p l e R s m args below meth c cells slots Q cL_lays 11 RL wsL_lays D y B Lk A 5 130) (RT : wk_Rz p l e R s m args below meth c cells slots Q cL_lays D y B Lk A r0 MM) {v5 : Int32} {v6 : Int32} {M : wk_T} {H : Heap} {locs : List Loc} {ls : Array Slot} (h : f_L_lays v5 v6 M = some (r0, MM)) (hl : lv_has ls 11 [(0, .ref (B 9 0 0)), (1, .ref (B 14 0 0)), (2, .ref (B 15 0 0)), (3, .ref (B 16 0 0)), (4, .ref (B 17 0 0)), (5, .int v5), (6, .int v6)]) (hP : wk_H D y B Lk M H) (hS : va_S A s.heap H locs) : W p l e R s m args below meth c H locs cells slots Q (F0 m 0 ls []) := by
  obtain ⟨⟨hx, hb, hml, hown, hts⟩, hK, hI, hL, hA, hfr, hlo, hcs⟩ := id CX
  unfold f_L_lays at h
  refine lv_iload hx hb dL_lays_0 (lv_at hl 6 rfl) ?_
  refine lv_if_ne (tgt := 215) hx hb dL_lays_2 (by decide) (fun g1 => ?_) (fun g1 => ?_)
  · have h := wk_n g1 h
    refine lv_iload hx hb dL_lays_215 (lv_at hl 5 rfl) ?_
    refine lv_aload_n hx hb dL_lays_217 rfl (lv_at hl 1 rfl) ?_
    refine lv_iconst (v := 0) hx hb dL_lays_218 (by decide) ?_
    refine wk_iald (j := 0) hx hb hK hP (wk_lL hL 14 (by decide) (by decide)) wk_c14 (by decide) (by decide) dL_lays_219 ?_
    obtain ⟨g2, h⟩ := wk_gd_e h
    refine wk_irem hx hb g2 dL_lays_220 ?_
    obtain ⟨x3, ex3, h⟩ := wk_lt_e h
    refine wk_topi ex3 ?_
    refine lv_istore (lv' := [(7, .int x3), (0, .ref (B 9 0 0)), (1, .ref (B 14 0 0)), (2, .ref (B 15 0 0)), (3, .ref (B 16 0 0)), (4, .ref (B 17 0 0)), (5, .int v5), (6, .int v6)]) hx hb dL_lays_221 hl (by decide) rfl (fun ls hl => ?_)
    refine lv_iload hx hb dL_lays_223 (lv_at hl 7 rfl) ?_
    refine lv_iconst (v := 1) hx hb dL_lays_225 (by decide) ?_
    refine lv_icmp_ne (tgt := 343) hx hb dL_lays_226 (by decide) (fun g4 => ?_) (fun g4 => ?_)
    · have h := wk_n g4 h
      refine lv_iload hx hb dL_lays_343 (lv_at hl 7 rfl) ?_
      refine lv_iconst (v := 2) hx hb dL_lays_345 (by decide) ?_
      refine lv_icmp_ne (tgt := 536) hx hb dL_lays_346 (by decide) (fun g5 => ?_) (fun g5 => ?_)
      · have h := wk_n g5 h
        refine lv_iload hx hb dL_lays_536 (lv_at hl 7 rfl) ?_
        refine lv_iconst (v := 3) hx hb dL_lays_538 (by decide) ?_
        refine lv_icmp_ne (tgt := 666) hx hb dL_lays_539 (by decide) (fun g6 => ?_) (fun g6 => ?_)
        · have h := wk_n g6 h
          refine lv_iload hx hb dL_lays_666 (lv_at hl 7 rfl) ?_
          refine lv_iconst (v := 4) hx hb dL_lays_668 (by decide) ?_
          refine lv_icmp_ne (tgt := 723) hx hb dL_lays_669 (by decide) (fun g7 => ?_) (fun g7 => ?_)
          · have h := wk_n g7 h
            refine lv_bipush (v := 10) hx hb dL_lays_723 (by decide) ?_
            refine lv_aload_n hx hb dL_lays_725 rfl (lv_at hl 4 rfl) ?_
            refine lv_bipush (v := 8) hx hb dL_lays_726 (by decide) ?_
            refine lv_iload hx hb dL_lays_728 (lv_at hl 0 rfl) ?_
            refine lv_imul hx hb dL_lays_730 ?_
            refine lv_iconst (v := 3) hx hb dL_lays_731 (by decide) ?_
            refine lv_iadd hx hb dL_lays_732 ?_
            obtain ⟨g8, h⟩ := wk_gd_e h
            refine wk_iald (j := ((8 * x3) + 3).toNatClampNeg) hx hb hK hP (wk_lL hL 16 (by decide) (by decide)) wk_c16 g8 rfl dL_lays_733 ?_
            refine lv_imul hx hb dL_lays_734 ?_
            refine lv_aload_n hx hb dL_lays_735 rfl (lv_at hl 4 rfl) ?_
            refine lv_bipush (v := 8) hx hb dL_lays_736 (by decide) ?_
            refine lv_iload hx hb dL_lays_738 (lv_at hl 0 rfl) ?_
            refine lv_imul hx hb dL_lays_740 ?_
            refine lv_iconst (v := 4) hx hb dL_lays_741 (by decide) ?_
            refine lv_iadd hx hb dL_lays_742 ?_
            obtain ⟨g9, h⟩ := wk_gd_e h
            refine wk_iald (j := ((8 * x3) + 4).toNatClampNeg) hx hb hK hP (wk_lL hL 16 (by decide) (by decide)) wk_c16 g9 rfl dL_lays_743 ?_
            refine lv_iadd hx hb dL_lays_744 ?_
            obtain ⟨x10, ex10, h⟩ := wk_lt_e h
            refine wk_topi ex10 ?_
            refine lv_istore (lv' := [(8, .int x10), (7, .int x3), (0, .ref (B 9 0 0)), (1, .ref (B 14 0 0)), (2, .ref (B 15 0 0)), (3, .ref (B 16 0 0)), (4, .ref (B 17 0 0)), (5, .int v5), (6, .int v6)]) hx hb dL_lays_745 hl (by decide) rfl (fun ls hl => ?_)
            refine lv_aload_n hx hb dL_lays_747 rfl (lv_at hl 5 rfl) ?_
            refine lv_bipush (v := 8) hx hb dL_lays_748 (by decide) ?_
            refine lv_iload hx hb dL_lays_750 (lv_at hl 1 rfl) ?_
            refine lv_imul hx hb dL_lays_752 ?_
            refine lv_iconst (v := 3) hx hb dL_lays_753 (by decide) ?_
            refine lv_iadd hx hb dL_lays_754 ?_
            refine lv_iload hx hb dL_lays_755 (lv_at hl 7 rfl) ?_
            refine lv_bipush (v := 8) hx hb dL_lays_757 (by decide) ?_
            refine lv_idiv hx hb dL_lays_759 (by decide) ?_
            refine lv_bipush (v := 12) hx hb dL_lays_760 (by decide) ?_
            refine wk_irem hx hb (by decide) dL_lays_762 ?_
            obtain ⟨g11, h⟩ := wk_gd_e h
            obtain ⟨M12, eM12, h⟩ := wk_mu_e h
            refine wk_iast (j := ((8 * x3) + 3).toNatClampNeg) hx hb hK hP hI hS hA (wk_lL hL 16 (by decide) (by decide)) wk_c16 g11 rfl (by rfl) dL_lays_763 (fun H locs hP hS => ?_)
            rw [eM12] at hP
            refine lv_aload_n hx hb dL_lays_764 rfl (lv_at hl 5 rfl) ?_
            refine lv_bipush (v := 8) hx hb dL_lays_765 (by decide) ?_
            refine lv_iload hx hb dL_lays_767 (lv_at hl 1 rfl) ?_
            refine lv_imul hx hb dL_lays_769 ?_
            refine lv_iconst (v := 4) hx hb dL_lays_770 (by decide) ?_
            refine lv_iadd hx hb dL_lays_771 ?_
            refine lv_iload hx hb dL_lays_772 (lv_at hl 7 rfl) ?_
            refine lv_bipush (v := 96) hx hb dL_lays_774 (by decide) ?_
            refine lv_idiv hx hb dL_lays_776 (by decide) ?_
            refine lv_iconst (v := 3) hx hb dL_lays_777 (by decide) ?_
            refine wk_irem hx hb (by decide) dL_lays_778 ?_
            obtain ⟨g13, h⟩ := wk_gd_e h
            obtain ⟨M14, eM14, h⟩ := wk_mu_e h
            refine wk_iast (j := ((8 * x3) + 4).toNatClampNeg) hx hb hK hP hI hS hA (wk_lL hL 16 (by decide) (by decide)) wk_c16 g13 rfl (by rfl) dL_lays_779 (fun H locs hP hS => ?_)
            rw [eM14] at hP
            refine lv_aload_n hx hb dL_lays_780 rfl (lv_at hl 2 rfl) ?_
            refine lv_iload hx hb dL_lays_781 (lv_at hl 1 rfl) ?_
            refine lv_aload_n hx hb dL_lays_783 rfl (lv_at hl 5 rfl) ?_
            refine lv_bipush (v := 8) hx hb dL_lays_784 (by decide) ?_
            refine lv_iload hx hb dL_lays_786 (lv_at hl 1 rfl) ?_
            refine lv_imul hx hb dL_lays_788 ?_
            refine lv_iconst (v := 3) hx hb dL_lays_789 (by decide) ?_
            refine lv_iadd hx hb dL_lays_790 ?_
            obtain ⟨g15, h⟩ := wk_gd_e h
            refine wk_iald (j := ((8 * x3) + 3).toNatClampNeg) hx hb hK hP (wk_lL hL 16 (by decide) (by decide)) wk_c16 g15 rfl dL_lays_791 ?_
            refine lv_aload_n hx hb dL_lays_792 rfl (lv_at hl 5 rfl) ?_
            refine lv_bipush (v := 8) hx hb dL_lays_793 (by decide) ?_
            refine lv_iload hx hb dL_lays_795 (lv_at hl 1 rfl) ?_
            refine lv_imul hx hb dL_lays_797 ?_
            refine lv_iconst (v := 4) hx hb dL_lays_798 (by decide) ?_
            refine lv_iadd hx hb dL_lays_799 ?_
            obtain ⟨g16, h⟩ := wk_gd_e h
            refine wk_iald (j := ((8 * x3) + 4).toNatClampNeg) hx hb hK hP (wk_lL hL 16 (by decide) (by decide)) wk_c16 g16 rfl dL_lays_800 ?_
            obtain ⟨r17, M18, er17, h⟩ := wk_cl_e h
            refine wk_cVi (As := [.int x3, .int (M14 16 0 0 (((8 * x3) + 3).toNatClampNeg)), .int (M14 16 0 0 (((8 * x3) + 4).toNatClampNeg))]) (rest := []) ⟨hx, hb, hml, hown, hts⟩ (m_X3_policy l hI hL er17) (cwV 3 hts gL_lays_X3_policy rfl rfl rfl (by decide +kernel) ⟨Nat.le_trans (by decide) hfr, Nat.le_trans (by decide) hlo⟩) hK hP hS hA (wk_l9 hL 9 (by decide) (by decide)) wk_c9 rfl rfl hl.1 (lv_room (Nat.le_of_ble_eq_true rfl)) hcs dL_lays_801 (fun H locs hP hS => ?_)
            refine lv_iload hx hb dL_lays_804 (lv_at hl 0 rfl) ?_
            refine lv_icmp_ne (tgt := 813) hx hb dL_lays_806 (by decide) (fun g19 => ?_) (fun g19 => ?_)
            · have h := wk_n g19 h
              refine lv_iconst (v := 0) hx hb dL_lays_813 (by decide) ?_
              exact RT _ _ _ _ _ _ (Or.inl rfl) h hP hS dL_lays_814
            · have h := wk_p g19 h
              refine lv_iconst (v := 1) hx hb dL_lays_809 (by decide) ?_
              refine lv_goto (tgt := 814) hx hb dL_lays_810 (by decide) ?_
              exact RT _ _ _ _ _ _ (Or.inr rfl) h hP hS dL_lays_814
          · have h := wk_p g7 h
            refine lv_iload hx hb dL_lays_672 (lv_at hl 6 rfl) ?_
            refine lv_iconst (v := 2) hx hb dL_lays_674 (by decide) ?_
            refine wk_irem hx hb (by decide) dL_lays_675 ?_
            obtain ⟨x20, ex20, h⟩ := wk_lt_e h
            refine wk_topi ex20 ?_
            refine lv_istore (lv' := [(8, .int x20), (7, .int x3), (0, .ref (B 9 0 0)), (1, .ref (B 14 0 0)), (2, .ref (B 15 0 0)), (3, .ref (B 16 0 0)), (4, .ref (B 17 0 0)), (5, .int v5), (6, .int v6)]) hx hb dL_lays_676 hl (by decide) rfl (fun ls hl => ?_)
            refine lv_aload_n hx hb dL_lays_678 rfl (lv_at hl 3 rfl) ?_
            refine lv_iconst (v := 3) hx hb dL_lays_679 (by decide) ?_
            refine lv_iload hx hb dL_lays_680 (lv_at hl 0 rfl) ?_
            refine lv_iadd hx hb dL_lays_682 ?_
            obtain ⟨g21, h⟩ := wk_gd_e h
            refine wk_iald (j := (3 + x20).toNatClampNeg) hx hb hK hP (wk_lL hL 14 (by decide) (by decide)) wk_c14 g21 rfl dL_lays_683 ?_
            obtain ⟨x22, ex22, h⟩ := wk_lt_e h
            refine wk_topi ex22 ?_
            refine lv_istore (lv' := [(9, .int x22), (8, .int x20), (7, .int x3), (0, .ref (B 9 0 0)), (1, .ref (B 14 0 0)), (2, .ref (B 15 0 0)), (3, .ref (B 16 0 0)), (4, .ref (B 17 0 0)), (5, .int v5), (6, .int v6)]) hx hb dL_lays_684 hl (by decide) rfl (fun ls hl => ?_)
            refine lv_aload_n hx hb dL_lays_686 rfl (lv_at hl 4 rfl) ?_
            refine lv_iconst (v := 3) hx hb dL_lays_687 (by decide) ?_
            refine lv_iload hx hb dL_lays_688 (lv_at hl 1 rfl) ?_
            refine lv_iadd hx hb dL_lays_690 ?_
            refine lv_iconst (v := 1) hx hb dL_lays_691 (by decide) ?_
            refine lv_iload hx hb dL_lays_692 (lv_at hl 8 rfl) ?_
            refine lv_iconst (v := 2) hx hb dL_lays_694 (by decide) ?_
            refine lv_idiv hx hb dL_lays_695 (by decide) ?_
            refine lv_iconst (v := 4) hx hb dL_lays_696 (by decide) ?_
            refine wk_irem hx hb (by decide) dL_lays_697 ?_
            refine lv_iadd hx hb dL_lays_698 ?_
            obtain ⟨g23, h⟩ := wk_gd_e h
            obtain ⟨M24, eM24, h⟩ := wk_mu_e h
            refine wk_iast (j := (3 + x20).toNatClampNeg) hx hb hK hP hI hS hA (wk_lL hL 14 (by decide) (by decide)) wk_c14 g23 rfl (by rfl) dL_lays_699 (fun H locs hP hS => ?_)
            rw [eM24] at hP
            refine lv_aload_n hx hb dL_lays_700 rfl (lv_at hl 3 rfl) ?_
            refine lv_iload hx hb dL_lays_701 (lv_at hl 1 rfl) ?_
            refine lv_aload_n hx hb dL_lays_703 rfl (lv_at hl 4 rfl) ?_
            refine lv_iconst (v := 3) hx hb dL_lays_704 (by decide) ?_
            refine lv_iload hx hb dL_lays_705 (lv_at hl 1 rfl) ?_
            refine lv_iadd hx hb dL_lays_707 ?_
            obtain ⟨g25, h⟩ := wk_gd_e h
            refine wk_iald (j := (3 + x20).toNatClampNeg) hx hb hK hP (wk_lL hL 14 (by decide) (by decide)) wk_c14 g25 rfl dL_lays_708 ?_
            obtain ⟨r26, M27, er26, h⟩ := wk_cl_e h
            refine wk_cVi (As := [.int x20, .int (M24 14 0 0 ((3 + x20).toNatClampNeg))]) (rest := []) ⟨hx, hb, hml, hown, hts⟩ (m_X3_limit l hI hL er26) (cwV 2 hts gL_lays_X3_limit rfl rfl rfl (by decide +kernel) ⟨Nat.le_trans (by decide) hfr, Nat.le_trans (by decide) hlo⟩) hK hP hS hA (wk_l9 hL 9 (by decide) (by decide)) wk_c9 rfl rfl hl.1 (lv_room (Nat.le_of_ble_eq_true rfl)) hcs dL_lays_709 (fun H locs hP hS => ?_)
            refine lv_iload hx hb dL_lays_712 (lv_at hl 0 rfl) ?_
            refine lv_icmp_ne (tgt := 721) hx hb dL_lays_714 (by decide) (fun g28 => ?_) (fun g28 => ?_)
            · have h := wk_n g28 h
              refine lv_iconst (v := 0) hx hb dL_lays_721 (by decide) ?_
              exact RT _ _ _ _ _ _ (Or.inl rfl) h hP hS dL_lays_722
            · have h := wk_p g28 h
              refine lv_iconst (v := 1) hx hb dL_lays_717 (by decide) ?_
              refine lv_goto (tgt := 722) hx hb dL_lays_718 (by decide) ?_
              exact RT _ _ _ _ _ _ (Or.inr rfl) h hP hS dL_lays_722
        · have h := wk_p g6 h
          refine lv_aload_n hx hb dL_lays_542 rfl (lv_at hl 3 rfl) ?_
          refine lv_bipush (v := 8) hx hb dL_lays_543 (by decide) ?_
          refine lv_iload hx hb dL_lays_545 (lv_at hl 0 rfl) ?_
          refine lv_imul hx hb dL_lays_547 ?_
          refine lv_bipush (v := 7) hx hb dL_lays_548 (by decide) ?_
          refine lv_iadd hx hb dL_lays_550 ?_
          obtain ⟨g29, h⟩ := wk_gd_e h
          refine wk_iald (j := ((8 * x3) + 7).toNatClampNeg) hx hb hK hP (wk_lL hL 15 (by decide) (by decide)) wk_c15 g29 rfl dL_lays_551 ?_
          obtain ⟨x30, ex30, h⟩ := wk_lt_e h
          refine wk_topi ex30 ?_
          refine lv_istore (lv' := [(8, .int x30), (7, .int x3), (0, .ref (B 9 0 0)), (1, .ref (B 14 0 0)), (2, .ref (B 15 0 0)), (3, .ref (B 16 0 0)), (4, .ref (B 17 0 0)), (5, .int v5), (6, .int v6)]) hx hb dL_lays_552 hl (by decide) rfl (fun ls hl => ?_)
          refine lv_iload hx hb dL_lays_554 (lv_at hl 0 rfl) ?_
          refine lv_if_lt (tgt := 569) hx hb dL_lays_556 (by decide) (fun g31 => ?_) (fun g31 => ?_)
          · have h := wk_p g31 h
            exact w_L_lays_569 CX RT h (lv_sub hl [2, 1] rfl) hP hS
          · have h := wk_n g31 h
            refine lv_aload_n hx hb dL_lays_559 rfl (lv_at hl 5 rfl) ?_
            refine lv_bipush (v := 8) hx hb dL_lays_560 (by decide) ?_
            refine lv_iload hx hb dL_lays_562 (lv_at hl 1 rfl) ?_
            refine lv_imul hx hb dL_lays_564 ?_
            obtain ⟨g32, h⟩ := wk_gd_e h
            refine wk_iald (j := (8 * x3).toNatClampNeg) hx hb hK hP (wk_lL hL 16 (by decide) (by decide)) wk_c16 g32 rfl dL_lays_565 ?_
            refine lv_if_le (tgt := 586) hx hb dL_lays_566 (by decide) (fun g33 => ?_) (fun g33 => ?_)
            · have h := wk_p g33 h
              refine lv_iconst (v := 0) hx hb dL_lays_586 (by decide) ?_
              refine lv_istore (lv' := [(9, .int 0), (8, .int x30), (7, .int x3), (0, .ref (B 9 0 0)), (1, .ref (B 14 0 0)), (2, .ref (B 15 0 0)), (3, .ref (B 16 0 0)), (4, .ref (B 17 0 0)), (5, .int v5), (6, .int v6)]) hx hb dL_lays_587 hl (by decide) rfl (fun ls hl => ?_)
              refine lv_iconst (v := 0) hx hb dL_lays_589 (by decide) ?_
              refine lv_istore (lv' := [(10, .int 0), (9, .int 0), (8, .int x30), (7, .int x3), (0, .ref (B 9 0 0)), (1, .ref (B 14 0 0)), (2, .ref (B 15 0 0)), (3, .ref (B 16 0 0)), (4, .ref (B 17 0 0)), (5, .int v5), (6, .int v6)]) hx hb dL_lays_590 hl (by decide) rfl (fun ls hl => ?_)
              exact w_L_lays_592 CX RT wk_fuel _ _ _ _ _ _ _ _ h (lv_sub hl [4, 5, 6, 3, 2, 1, 0] rfl) hP hS
            · have h := wk_n g33 h
              exact w_L_lays_569 CX RT h (lv_sub hl [2, 1] rfl) hP hS
      · have h := wk_p g5 h
        refine lv_iload hx hb dL_lays_349 (lv_at hl 6 rfl) ?_
        refine lv_bipush (v := 17) hx hb dL_lays_351 (by decide) ?_
        refine wk_irem hx hb (by decide) dL_lays_353 ?_
        refine lv_if_ne (tgt := 369) hx hb dL_lays_354 (by decide) (fun g34 => ?_) (fun g34 => ?_)
        · have h := wk_n g34 h
          refine lv_aload_n hx hb dL_lays_369 rfl (lv_at hl 3 rfl) ?_
          refine lv_bipush (v := 8) hx hb dL_lays_370 (by decide) ?_
          refine lv_iload hx hb dL_lays_372 (lv_at hl 0 rfl) ?_
          refine lv_imul hx hb dL_lays_374 ?_
          obtain ⟨g35, h⟩ := wk_gd_e h
          refine wk_iald (j := (8 * x3).toNatClampNeg) hx hb hK hP (wk_lL hL 15 (by decide) (by decide)) wk_c15 g35 rfl dL_lays_375 ?_
          exact w_L_lays_376 CX RT h (lv_sub hl [1, 2, 3, 0] rfl) hP hS
        · have h := wk_p g34 h
          refine lv_iconst (v := 1) hx hb dL_lays_357 (by decide) ?_
          refine lv_aload_n hx hb dL_lays_358 rfl (lv_at hl 3 rfl) ?_
          refine lv_bipush (v := 8) hx hb dL_lays_359 (by decide) ?_
          refine lv_iload hx hb dL_lays_361 (lv_at hl 0 rfl) ?_
          refine lv_imul hx hb dL_lays_363 ?_
          obtain ⟨g36, h⟩ := wk_gd_e h
          refine wk_iald (j := (8 * x3).toNatClampNeg) hx hb hK hP (wk_lL hL 15 (by decide) (by decide)) wk_c15 g36 rfl dL_lays_364 ?_
          refine lv_isub hx hb dL_lays_365 ?_
          refine lv_goto (tgt := 376) hx hb dL_lays_366 (by decide) ?_
          exact w_L_lays_376 CX RT h (lv_sub hl [1, 2, 3, 0] rfl) hP hS
    · have h := wk_p g4 h
      refine lv_iload hx hb dL_lays_229 (lv_at hl 6 rfl) ?_
      refine lv_bipush (v := 8) hx hb dL_lays_231 (by decide) ?_
      refine lv_idiv hx hb dL_lays_233 (by decide) ?_
      refine lv_iload hx hb dL_lays_234 (lv_at hl 0 rfl) ?_
      refine lv_iconst (v := 2) hx hb dL_lays_236 (by decide) ?_
      refine lv_iadd hx hb dL_lays_237 ?_
      obtain ⟨g37, h⟩ := wk_gd_e h
      refine wk_irem hx hb g37 dL_lays_238 ?_
      refine lv_iconst (v := 1) hx hb dL_lays_239 (by decide) ?_
      refine lv_isub hx hb dL_lays_240 ?_
      obtain ⟨x38, ex38, h⟩ := wk_lt_e h
      refine wk_topi ex38 ?_
      refine lv_istore (lv' := [(8, .int x38), (7, .int x3), (0, .ref (B 9 0 0)), (1, .ref (B 14 0 0)), (2, .ref (B 15 0 0)), (3, .ref (B 16 0 0)), (4, .ref (B 17 0 0)), (5, .int v5), (6, .int v6)]) hx hb dL_lays_241 hl (by decide) rfl (fun ls hl => ?_)
      refine lv_aload_n hx hb dL_lays_243 rfl (lv_at hl 4 rfl) ?_
      refine lv_bipush (v := 8) hx hb dL_lays_244 (by decide) ?_
      refine lv_iload hx hb dL_lays_246 (lv_at hl 1 rfl) ?_
      refine lv_imul hx hb dL_lays_248 ?_
      refine lv_bipush (v := 6) hx hb dL_lays_249 (by decide) ?_
      refine lv_iadd hx hb dL_lays_251 ?_
      obtain ⟨g39, h⟩ := wk_gd_e h
      refine wk_iald (j := ((8 * x3) + 6).toNatClampNeg) hx hb hK hP (wk_lL hL 15 (by decide) (by decide)) wk_c15 g39 rfl dL_lays_252 ?_
      obtain ⟨x40, ex40, h⟩ := wk_lt_e h
      refine wk_topi ex40 ?_
      refine lv_istore (lv' := [(9, .int x40), (8, .int x38), (7, .int x3), (0, .ref (B 9 0 0)), (1, .ref (B 14 0 0)), (2, .ref (B 15 0 0)), (3, .ref (B 16 0 0)), (4, .ref (B 17 0 0)), (5, .int v5), (6, .int v6)]) hx hb dL_lays_253 hl (by decide) rfl (fun ls hl => ?_)
      refine lv_aload_n hx hb dL_lays_255 rfl (lv_at hl 6 rfl) ?_
      refine lv_bipush (v := 8) hx hb dL_lays_256 (by decide) ?_
      refine lv_iload hx hb dL_lays_258 (lv_at hl 2 rfl) ?_
      refine lv_imul hx hb dL_lays_260 ?_
      obtain ⟨g41, h⟩ := wk_gd_e h
      refine wk_iald (j := (8 * x3).toNatClampNeg) hx hb hK hP (wk_lL hL 16 (by decide) (by decide)) wk_c16 g41 rfl dL_lays_261 ?_
      refine lv_if_ne (tgt := 276) hx hb dL_lays_262 (by decide) (fun g42 => ?_) (fun g42 => ?_)
      · have h := wk_n g42 h
        exact w_L_lays_276 CX RT h (lv_sub hl [3, 5, 2, 1, 0] rfl) hP hS
      · have h := wk_p g42 h
        refine lv_iload hx hb dL_lays_265 (lv_at hl 1 rfl) ?_
        refine lv_iload hx hb dL_lays_267 (lv_at hl 2 rfl) ?_
        refine lv_icmp_ge (tgt := 276) hx hb dL_lays_269 (by decide) (fun g43 => ?_) (fun g43 => ?_)
        · have h := wk_p g43 h
          exact w_L_lays_276 CX RT h (lv_sub hl [3, 5, 2, 1, 0] rfl) hP hS
        · have h := wk_n g43 h
          refine lv_iconst (v := 1) hx hb dL_lays_272 (by decide) ?_
          refine lv_goto (tgt := 277) hx hb dL_lays_273 (by decide) ?_
          exact w_L_lays_277 CX RT h (lv_sub hl [3, 5, 2, 1, 0] rfl) hP hS
  · have h := wk_p g1 h
    refine lv_iload hx hb dL_lays_5 (lv_at hl 5 rfl) ?_
    refine lv_iconst (v := 2) hx hb dL_lays_7 (by decide) ?_
    refine wk_irem hx hb (by decide) dL_lays_8 ?_
    obtain ⟨x44, ex44, h⟩ := wk_lt_e h
    refine wk_topi ex44 ?_
    refine lv_istore (lv' := [(7, .int x44), (0, .ref (B 9 0 0)), (1, .ref (B 14 0 0)), (2, .ref (B 15 0 0)), (3, .ref (B 16 0 0)), (4, .ref (B 17 0 0)), (5, .int v5), (6, .int v6)]) hx hb dL_lays_9 hl (by decide) rfl (fun ls hl => ?_)
    refine lv_aload_n hx hb dL_lays_11 rfl (lv_at hl 2 rfl) ?_
    refine lv_iconst (v := 0) hx hb dL_lays_12 (by decide) ?_
    refine wk_iald (j := 0) hx hb hK hP (wk_lL hL 14 (by decide) (by decide)) wk_c14 (by decide) (by decide) dL_lays_13 ?_
    refine lv_bipush (v := 8) hx hb dL_lays_14 (by decide) ?_
    refine lv_icmp_ne (tgt := 55) hx hb dL_lays_16 (by decide) (fun g45 => ?_) (fun g45 => ?_)
    · have h := wk_n g45 h
      refine lv_bipush (v := 8) hx hb dL_lays_55 (by decide) ?_
      refine lv_aload_n hx hb dL_lays_57 rfl (lv_at hl 2 rfl) ?_
      refine lv_iconst (v := 0) hx hb dL_lays_58 (by decide) ?_
      refine wk_iald (j := 0) hx hb hK hP (wk_lL hL 14 (by decide) (by decide)) wk_c14 (by decide) (by decide) dL_lays_59 ?_
      refine lv_imul hx hb dL_lays_60 ?_
      obtain ⟨x46, ex46, h⟩ := wk_lt_e h
      refine wk_topi ex46 ?_
      refine lv_istore (lv' := [(8, .int x46), (7, .int x44), (0, .ref (B 9 0 0)), (1, .ref (B 14 0 0)), (2, .ref (B 15 0 0)), (3, .ref (B 16 0 0)), (4, .ref (B 17 0 0)), (5, .int v5), (6, .int v6)]) hx hb dL_lays_61 hl (by decide) rfl (fun ls hl => ?_)
      refine lv_aload_n hx hb dL_lays_63 rfl (lv_at hl 4 rfl) ?_
      refine lv_iload hx hb dL_lays_64 (lv_at hl 0 rfl) ?_
      refine lv_iload hx hb dL_lays_66 (lv_at hl 1 rfl) ?_
      obtain ⟨g47, h⟩ := wk_gd_e h
      obtain ⟨M48, eM48, h⟩ := wk_mu_e h
      refine wk_iast (j := x46.toNatClampNeg) hx hb hK hP hI hS hA (wk_lL hL 15 (by decide) (by decide)) wk_c15 g47 rfl (by rfl) dL_lays_68 (fun H locs hP hS => ?_)
      rw [eM48] at hP
      refine lv_aload_n hx hb dL_lays_69 rfl (lv_at hl 4 rfl) ?_
      refine lv_iload hx hb dL_lays_70 (lv_at hl 0 rfl) ?_
      refine lv_iconst (v := 1) hx hb dL_lays_72 (by decide) ?_
      refine lv_iadd hx hb dL_lays_73 ?_
      refine lv_iload hx hb dL_lays_74 (lv_at hl 7 rfl) ?_
      refine lv_iconst (v := 2) hx hb dL_lays_76 (by decide) ?_
      refine lv_idiv hx hb dL_lays_77 (by decide) ?_
      refine lv_bipush (v := 80) hx hb dL_lays_78 (by decide) ?_
      refine wk_irem hx hb (by decide) dL_lays_80 ?_
      obtain ⟨g49, h⟩ := wk_gd_e h
      obtain ⟨M50, eM50, h⟩ := wk_mu_e h
      refine wk_iast (j := (x46 + 1).toNatClampNeg) hx hb hK hP hI hS hA (wk_lL hL 15 (by decide) (by decide)) wk_c15 g49 rfl (by rfl) dL_lays_81 (fun H locs hP hS => ?_)
      rw [eM50] at hP
      refine lv_aload_n hx hb dL_lays_82 rfl (lv_at hl 4 rfl) ?_
      refine lv_iload hx hb dL_lays_83 (lv_at hl 0 rfl) ?_
      refine lv_iconst (v := 2) hx hb dL_lays_85 (by decide) ?_
      refine lv_iadd hx hb dL_lays_86 ?_
      refine lv_iconst (v := 1) hx hb dL_lays_87 (by decide) ?_
      refine lv_iload hx hb dL_lays_88 (lv_at hl 7 rfl) ?_
      refine lv_bipush (v := 7) hx hb dL_lays_90 (by decide) ?_
      refine lv_idiv hx hb dL_lays_92 (by decide) ?_
      refine lv_bipush (v := 9) hx hb dL_lays_93 (by decide) ?_
      refine wk_irem hx hb (by decide) dL_lays_95 ?_
      refine lv_iadd hx hb dL_lays_96 ?_
      obtain ⟨g51, h⟩ := wk_gd_e h
      obtain ⟨M52, eM52, h⟩ := wk_mu_e h
      refine wk_iast (j := (x46 + 2).toNatClampNeg) hx hb hK hP hI hS hA (wk_lL hL 15 (by decide) (by decide)) wk_c15 g51 rfl (by rfl) dL_lays_97 (fun H locs hP hS => ?_)
      rw [eM52] at hP
      refine lv_aload_n hx hb dL_lays_98 rfl (lv_at hl 4 rfl) ?_
      refine lv_iload hx hb dL_lays_99 (lv_at hl 0 rfl) ?_
      refine lv_iconst (v := 3) hx hb dL_lays_101 (by decide) ?_
      refine lv_iadd hx hb dL_lays_102 ?_
      refine lv_iconst (v := 1) hx hb dL_lays_103 (by decide) ?_
      refine lv_iload hx hb dL_lays_104 (lv_at hl 7 rfl) ?_
      refine lv_bipush (v := 11) hx hb dL_lays_106 (by decide) ?_
      refine lv_idiv hx hb dL_lays_108 (by decide) ?_
      refine lv_bipush (v := 50) hx hb dL_lays_109 (by decide) ?_
      refine wk_irem hx hb (by decide) dL_lays_111 ?_
      refine lv_iadd hx hb dL_lays_112 ?_
      obtain ⟨g53, h⟩ := wk_gd_e h
      obtain ⟨M54, eM54, h⟩ := wk_mu_e h
      refine wk_iast (j := (x46 + 3).toNatClampNeg) hx hb hK hP hI hS hA (wk_lL hL 15 (by decide) (by decide)) wk_c15 g53 rfl (by rfl) dL_lays_113 (fun H locs hP hS => ?_)
      rw [eM54] at hP
      refine lv_aload_n hx hb dL_lays_114 rfl (lv_at hl 4 rfl) ?_
      refine lv_iload hx hb dL_lays_115 (lv_at hl 0 rfl) ?_
      refine lv_iconst (v := 4) hx hb dL_lays_117 (by decide) ?_
      refine lv_iadd hx hb dL_lays_118 ?_
      refine lv_iload hx hb dL_lays_119 (lv_at hl 7 rfl) ?_
      refine lv_bipush (v := 13) hx hb dL_lays_121 (by decide) ?_
      refine lv_idiv hx hb dL_lays_123 (by decide) ?_
      refine lv_bipush (v := 51) hx hb dL_lays_124 (by decide) ?_
      refine wk_irem hx hb (by decide) dL_lays_126 ?_
      obtain ⟨g55, h⟩ := wk_gd_e h
      obtain ⟨M56, eM56, h⟩ := wk_mu_e h
      refine wk_iast (j := (x46 + 4).toNatClampNeg) hx hb hK hP hI hS hA (wk_lL hL 15 (by decide) (by decide)) wk_c15 g55 rfl (by rfl) dL_lays_127 (fun H locs hP hS => ?_)
      rw [eM56] at hP
      refine lv_aload_n hx hb dL_lays_128 rfl (lv_at hl 4 rfl) ?_
      refine lv_iload hx hb dL_lays_129 (lv_at hl 0 rfl) ?_
      refine lv_iconst (v := 5) hx hb dL_lays_131 (by decide) ?_
      refine lv_iadd hx hb dL_lays_132 ?_
      refine lv_iload hx hb dL_lays_133 (lv_at hl 7 rfl) ?_
      refine lv_bipush (v := 17) hx hb dL_lays_135 (by decide) ?_
      refine lv_idiv hx hb dL_lays_137 (by decide) ?_
      refine lv_bipush (v := 21) hx hb dL_lays_138 (by decide) ?_
      refine wk_irem hx hb (by decide) dL_lays_140 ?_
      obtain ⟨g57, h⟩ := wk_gd_e h
      obtain ⟨M58, eM58, h⟩ := wk_mu_e h
      refine wk_iast (j := (x46 + 5).toNatClampNeg) hx hb hK hP hI hS hA (wk_lL hL 15 (by decide) (by decide)) wk_c15 g57 rfl (by rfl) dL_lays_141 (fun H locs hP hS => ?_)
      rw [eM58] at hP
      refine lv_aload_n hx hb dL_lays_142 rfl (lv_at hl 4 rfl) ?_
      refine lv_iload hx hb dL_lays_143 (lv_at hl 0 rfl) ?_
      refine lv_bipush (v := 6) hx hb dL_lays_145 (by decide) ?_
      refine lv_iadd hx hb dL_lays_147 ?_
      refine lv_iconst (v := (-1)) hx hb dL_lays_148 (by decide) ?_
      obtain ⟨g59, h⟩ := wk_gd_e h
      obtain ⟨M60, eM60, h⟩ := wk_mu_e h
      refine wk_iast (j := (x46 + 6).toNatClampNeg) hx hb hK hP hI hS hA (wk_lL hL 15 (by decide) (by decide)) wk_c15 g59 rfl (by rfl) dL_lays_149 (fun H locs hP hS => ?_)
      rw [eM60] at hP
      refine lv_aload_n hx hb dL_lays_150 rfl (lv_at hl 4 rfl) ?_
      refine lv_iload hx hb dL_lays_151 (lv_at hl 0 rfl) ?_
      refine lv_bipush (v := 7) hx hb dL_lays_153 (by decide) ?_
      refine lv_iadd hx hb dL_lays_155 ?_
      refine lv_iconst (v := (-1)) hx hb dL_lays_156 (by decide) ?_
      obtain ⟨g61, h⟩ := wk_gd_e h
      obtain ⟨M62, eM62, h⟩ := wk_mu_e h
      refine wk_iast (j := (x46 + 7).toNatClampNeg) hx hb hK hP hI hS hA (wk_lL hL 15 (by decide) (by decide)) wk_c15 g61 rfl (by rfl) dL_lays_157 (fun H locs hP hS => ?_)
      rw [eM62] at hP
      refine lv_aload_n hx hb dL_lays_158 rfl (lv_at hl 3 rfl) ?_
      refine lv_iconst (v := 0) hx hb dL_lays_159 (by decide) ?_
      refine lv_dup2_11 hx hb dL_lays_160 rfl rfl ?_
      refine wk_iald (j := 0) hx hb hK hP (wk_lL hL 14 (by decide) (by decide)) wk_c14 (by decide) (by decide) dL_lays_161 ?_
      refine lv_iconst (v := 1) hx hb dL_lays_162 (by decide) ?_
      refine lv_iadd hx hb dL_lays_163 ?_
      obtain ⟨M63, eM63, h⟩ := wk_mu_e h
      refine wk_iast (j := 0) hx hb hK hP hI hS hA (wk_lL hL 14 (by decide) (by decide)) wk_c14 (by decide) (by decide) (by rfl) dL_lays_164 (fun H locs hP hS => ?_)
      rw [eM63] at hP
      refine lv_aload_n hx hb dL_lays_165 rfl (lv_at hl 2 rfl) ?_
      refine lv_iload hx hb dL_lays_166 (lv_at hl 1 rfl) ?_
      refine lv_aload_n hx hb dL_lays_168 rfl (lv_at hl 4 rfl) ?_
      refine lv_iload hx hb dL_lays_169 (lv_at hl 0 rfl) ?_
      refine lv_iconst (v := 1) hx hb dL_lays_171 (by decide) ?_
      refine lv_iadd hx hb dL_lays_172 ?_
      obtain ⟨g64, h⟩ := wk_gd_e h
      refine wk_iald (j := (x46 + 1).toNatClampNeg) hx hb hK hP (wk_lL hL 15 (by decide) (by decide)) wk_c15 g64 rfl dL_lays_173 ?_
      refine lv_aload_n hx hb dL_lays_174 rfl (lv_at hl 4 rfl) ?_
      refine lv_iload hx hb dL_lays_175 (lv_at hl 0 rfl) ?_
      refine lv_iconst (v := 2) hx hb dL_lays_177 (by decide) ?_
      refine lv_iadd hx hb dL_lays_178 ?_
      obtain ⟨g65, h⟩ := wk_gd_e h
      refine wk_iald (j := (x46 + 2).toNatClampNeg) hx hb hK hP (wk_lL hL 15 (by decide) (by decide)) wk_c15 g65 rfl dL_lays_179 ?_
      refine lv_aload_n hx hb dL_lays_180 rfl (lv_at hl 4 rfl) ?_
      refine lv_iload hx hb dL_lays_181 (lv_at hl 0 rfl) ?_
      refine lv_iconst (v := 3) hx hb dL_lays_183 (by decide) ?_
      refine lv_iadd hx hb dL_lays_184 ?_
      obtain ⟨g66, h⟩ := wk_gd_e h
      refine wk_iald (j := (x46 + 3).toNatClampNeg) hx hb hK hP (wk_lL hL 15 (by decide) (by decide)) wk_c15 g66 rfl dL_lays_185 ?_
      refine lv_aload_n hx hb dL_lays_186 rfl (lv_at hl 4 rfl) ?_
      refine lv_iload hx hb dL_lays_187 (lv_at hl 0 rfl) ?_
      refine lv_iconst (v := 4) hx hb dL_lays_189 (by decide) ?_
      refine lv_iadd hx hb dL_lays_190 ?_
      obtain ⟨g67, h⟩ := wk_gd_e h
      refine wk_iald (j := (x46 + 4).toNatClampNeg) hx hb hK hP (wk_lL hL 15 (by decide) (by decide)) wk_c15 g67 rfl dL_lays_191 ?_
      refine lv_aload_n hx hb dL_lays_192 rfl (lv_at hl 4 rfl) ?_
      refine lv_iload hx hb dL_lays_193 (lv_at hl 0 rfl) ?_
      refine lv_iconst (v := 5) hx hb dL_lays_195 (by decide) ?_
      refine lv_iadd hx hb dL_lays_196 ?_
      obtain ⟨g68, h⟩ := wk_gd_e h
      refine wk_iald (j := (x46 + 5).toNatClampNeg) hx hb hK hP (wk_lL hL 15 (by decide) (by decide)) wk_c15 g68 rfl dL_lays_197 ?_
      obtain ⟨r69, M70, er69, h⟩ := wk_cl_e h
      refine wk_cVi (As := [.int x44, .int (M63 15 0 0 ((x46 + 1).toNatClampNeg)), .int (M63 15 0 0 ((x46 + 2).toNatClampNeg)), .int (M63 15 0 0 ((x46 + 3).toNatClampNeg)), .int (M63 15 0 0 ((x46 + 4).toNatClampNeg)), .int (M63 15 0 0 ((x46 + 5).toNatClampNeg))]) (rest := []) ⟨hx, hb, hml, hown, hts⟩ (m_X3_room l hI hL er69) (cwV 6 hts gL_lays_X3_room rfl rfl rfl (by decide +kernel) ⟨Nat.le_trans (by decide) hfr, Nat.le_trans (by decide) hlo⟩) hK hP hS hA (wk_l9 hL 9 (by decide) (by decide)) wk_c9 rfl rfl hl.1 (lv_room (Nat.le_of_ble_eq_true rfl)) hcs dL_lays_198 (fun H locs hP hS => ?_)
      refine lv_aload_n hx hb dL_lays_201 rfl (lv_at hl 3 rfl) ?_
      refine lv_iconst (v := 0) hx hb dL_lays_202 (by decide) ?_
      refine wk_iald (j := 0) hx hb hK hP (wk_lL hL 14 (by decide) (by decide)) wk_c14 (by decide) (by decide) dL_lays_203 ?_
      refine lv_iconst (v := 1) hx hb dL_lays_204 (by decide) ?_
      refine lv_isub hx hb dL_lays_205 ?_
      refine lv_icmp_ne (tgt := 213) hx hb dL_lays_206 (by decide) (fun g71 => ?_) (fun g71 => ?_)
      · have h := wk_n g71 h
        refine lv_iconst (v := 0) hx hb dL_lays_213 (by decide) ?_
        exact RT _ _ _ _ _ _ (Or.inl rfl) h hP hS dL_lays_214
      · have h := wk_p g71 h
        refine lv_iconst (v := 1) hx hb dL_lays_209 (by decide) ?_
        refine lv_goto (tgt := 214) hx hb dL_lays_210 (by decide) ?_
        exact RT _ _ _ _ _ _ (Or.inr rfl) h hP hS dL_lays_214
    · have h := wk_p g45 h
      refine lv_aload_n hx hb dL_lays_19 rfl (lv_at hl 1 rfl) ?_
      refine lv_iload hx hb dL_lays_20 (lv_at hl 0 rfl) ?_
      refine lv_iconst (v := 0) hx hb dL_lays_22 (by decide) ?_
      refine lv_iconst (v := 1) hx hb dL_lays_23 (by decide) ?_
      refine lv_iconst (v := 1) hx hb dL_lays_24 (by decide) ?_
      refine lv_iconst (v := 0) hx hb dL_lays_25 (by decide) ?_
      refine lv_iconst (v := 0) hx hb dL_lays_26 (by decide) ?_
      obtain ⟨r72, M73, er72, h⟩ := wk_cl_e h
      refine wk_cVi (As := [.int x44, .int 0, .int 1, .int 1, .int 0, .int 0]) (rest := []) ⟨hx, hb, hml, hown, hts⟩ (m_X3_room l hI hL er72) (cwV 6 hts gL_lays_X3_room rfl rfl rfl (by decide +kernel) ⟨Nat.le_trans (by decide) hfr, Nat.le_trans (by decide) hlo⟩) hK hP hS hA (wk_l9 hL 9 (by decide) (by decide)) wk_c9 rfl rfl hl.1 (lv_room (Nat.le_of_ble_eq_true rfl)) hcs dL_lays_27 (fun H locs hP hS => ?_)
      refine lv_bipush (v := (-3)) hx hb dL_lays_30 (by decide) ?_
      refine lv_icmp_ne (tgt := 53) hx hb dL_lays_32 (by decide) (fun g74 => ?_) (fun g74 => ?_)
      · have h := wk_n g74 h
        refine lv_iconst (v := 0) hx hb dL_lays_53 (by decide) ?_
        exact RT _ _ _ _ _ _ (Or.inl rfl) h hP hS dL_lays_54
      · have h := wk_p g74 h
        refine lv_aload_n hx hb dL_lays_35 rfl (lv_at hl 1 rfl) ?_
        refine lv_iconst (v := 2) hx hb dL_lays_36 (by decide) ?_
        refine lv_iconst (v := 0) hx hb dL_lays_37 (by decide) ?_
        refine lv_iconst (v := 1) hx hb dL_lays_38 (by decide) ?_
        refine lv_iconst (v := 1) hx hb dL_lays_39 (by decide) ?_
        refine lv_iconst (v := 0) hx hb dL_lays_40 (by decide) ?_
        refine lv_iconst (v := 0) hx hb dL_lays_41 (by decide) ?_
        obtain ⟨r75, M76, er75, h⟩ := wk_cl_e h
        refine wk_cVi (As := [.int 2, .int 0, .int 1, .int 1, .int 0, .int 0]) (rest := []) ⟨hx, hb, hml, hown, hts⟩ (m_X3_room l hI hL er75) (cwV 6 hts gL_lays_X3_room rfl rfl rfl (by decide +kernel) ⟨Nat.le_trans (by decide) hfr, Nat.le_trans (by decide) hlo⟩) hK hP hS hA (wk_l9 hL 9 (by decide) (by decide)) wk_c9 rfl rfl hl.1 (lv_room (Nat.le_of_ble_eq_true rfl)) hcs dL_lays_42 (fun H locs hP hS => ?_)
        refine lv_iconst (v := (-1)) hx hb dL_lays_45 (by decide) ?_
        refine lv_icmp_ne (tgt := 53) hx hb dL_lays_46 (by decide) (fun g77 => ?_) (fun g77 => ?_)
        · have h := wk_n g77 h
          refine lv_iconst (v := 0) hx hb dL_lays_53 (by decide) ?_
          exact RT _ _ _ _ _ _ (Or.inl rfl) h hP hS dL_lays_54
        · have h := wk_p g77 h
          refine lv_iconst (v := 1) hx hb dL_lays_49 (by decide) ?_
          refine lv_goto (tgt := 54) hx hb dL_lays_50 (by decide) ?_
          exact RT _ _ _ _ _ _ (Or.inr rfl) h hP hS dL_lays_54
set_option maxRecDepth 100000 in
set_option maxHeartbeats 4000000 in
theorem m_L_lays (l : Launch) {D : va_G} {y : Nat → ClassId} {B : Nat → Nat → Nat → Nat} {Lk : Nat → Nat → Nat → Prop} (hI : wk_I B Lk) (hL : wk_L Lk) {v5 : Int32} {v6 : Int32} {M : wk_T} {r0 : Int32} {MM : wk_T} (hf : f_L_lays v5 v6 M = some (r0, MM)) : wk_Mi l yL_lays wsL_lays 5 130 D y B Lk [.ref (B 9 0 0), .ref (B 14 0 0), .ref (B 15 0 0), .ref (B 16 0 0), .ref (B 17 0 0), .int v5, .int v6] M r0 MM :=
  wk_ofI (own := RL) (bytes := cL_lays) (maxL := 11) (ret := some .boolean) (by decide +kernel) rfl rfl (Or.inr rfl) (Nat.le_of_ble_eq_true rfl) hI hL (fun p e s m args below meth c ls CX RTi RTz hl hP hS => w_L_lays_0 CX (RTz rfl) hf hl hP hS)
end WP18
