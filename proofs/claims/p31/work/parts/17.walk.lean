/-! walks by program: L_tick -/
section WP17
variable {p : Program} {l : Launch} {e : Env} {R : Room} {s : State} {m : MethodId} {args : Array Value} {below : List Frame} {meth : Method} {c : Code} {cells slots : Nat} {Q : State → Prop}
variable {D : va_G} {y : Nat → ClassId} {B : Nat → Nat → Nat → Nat} {Lk : Nat → Nat → Nat → Prop} {A : Nat → Prop} {MM : wk_T}
def f_L_tick_90 (k6 : Int64 → Int32 → wk_T → Option (Int64 × wk_T)) (k18 : Int64 → Int32 → Int32 → wk_T → Option (Int64 × wk_T)) (v5 : Int64) (v7 : Int32) (s0 : Int32) (M : wk_T) : Option (Int64 × wk_T) := (k18 v5 v7 s0 M)
def f_L_tick_66 (k6 : Int64 → Int32 → wk_T → Option (Int64 × wk_T)) (k18 : Int64 → Int32 → Int32 → wk_T → Option (Int64 × wk_T)) (v5 : Int64) (v7 : Int32) (v8 : Int32) (M : wk_T) : Option (Int64 × wk_T) := wk_cl (f_L_ready v8 M) (fun r1 M2 => (if r1 = 0 then wk_gd (¬ (((8 * v8) + 6) < 0 ∨ 64 ≤ ((8 * v8) + 6).toNatClampNeg)) ((f_L_tick_90 k6 k18 v5 v7 (M2 15 0 0 (((8 * v8) + 6).toNatClampNeg)) M2)) else (f_L_tick_90 k6 k18 v5 v7 (-1) M2)))
def f_L_tick_263 (k6 : Int64 → Int32 → wk_T → Option (Int64 × wk_T)) (v5 : Int64) (v7 : Int32) (M : wk_T) : Option (Int64 × wk_T) := wk_lt (v7 + 1) (fun x1 => (k6 v5 x1 M))
def f_L_tick_95 (k6 : Int64 → Int32 → wk_T → Option (Int64 × wk_T)) (v5 : Int64) (v7 : Int32) (M : wk_T) : Option (Int64 × wk_T) := wk_gd (¬ ((8 * v7) < 0 ∨ 64 ≤ (8 * v7).toNatClampNeg)) ((if (M 16 0 0 ((8 * v7).toNatClampNeg)) = 2 then wk_cl (f_L_due v7 0 M) (fun r3 M4 => (if r3 = 0 then (f_L_tick_263 k6 v5 v7 M4) else wk_cl (f_L_first v7 M4) (fun r6 M7 => wk_gd (¬ (((3 * r6) + 1) < 0 ∨ 36 ≤ ((3 * r6) + 1).toNatClampNeg)) (wk_lt (((M7 14 0 0 2) - (M7 18 0 0 (((3 * r6) + 1).toNatClampNeg)))) (fun x9 => wk_ll ((v5 + (1 + (1000 * (Int32.toInt64 x9))))) (fun x10 => wk_gd (¬ ((8 * v7) < 0 ∨ 64 ≤ (8 * v7).toNatClampNeg)) (wk_mu (wk_up M7 16 0 0 ((8 * v7).toNatClampNeg) 3) (fun M12 => wk_gd (¬ (((3 * r6) + 2) < 0 ∨ 36 ≤ ((3 * r6) + 2).toNatClampNeg)) (wk_gd (¬ (((8 * v7) + 1) < 0 ∨ 64 ≤ ((8 * v7) + 1).toNatClampNeg)) (wk_mu (wk_up M12 16 0 0 (((8 * v7) + 1).toNatClampNeg) (M12 18 0 0 (((3 * r6) + 2).toNatClampNeg))) (fun M15 => wk_gd (¬ (((8 * v7) + 5) < 0 ∨ 64 ≤ ((8 * v7) + 5).toNatClampNeg)) (wk_gd (¬ (((8 * v7) + 5) < 0 ∨ 64 ≤ ((8 * v7) + 5).toNatClampNeg)) (wk_mu (wk_up M15 16 0 0 (((8 * v7) + 5).toNatClampNeg) ((M15 16 0 0 (((8 * v7) + 5).toNatClampNeg)) + 1)) (fun M18 => wk_gd (¬ (((8 * v7) + 6) < 0 ∨ 64 ≤ ((8 * v7) + 6).toNatClampNeg)) (wk_gd (¬ (((8 * v7) + 6) < 0 ∨ 64 ≤ ((8 * v7) + 6).toNatClampNeg)) (wk_mu (wk_up M18 16 0 0 (((8 * v7) + 6).toNatClampNeg) ((M18 16 0 0 (((8 * v7) + 6).toNatClampNeg)) + x9)) (fun M21 => wk_gd (¬ ((32 + (2 * v7)) < 0 ∨ 48 ≤ (32 + (2 * v7)).toNatClampNeg)) (wk_gd (¬ ((33 + (2 * v7)) < 0 ∨ 48 ≤ (33 + (2 * v7)).toNatClampNeg)) (wk_mu (wk_up M21 17 0 0 ((33 + (2 * v7)).toNatClampNeg) ((M21 14 0 0 2) - (M21 17 0 0 ((32 + (2 * v7)).toNatClampNeg)))) (fun M24 => wk_gd (¬ (((3 * r6) + 2) < 0 ∨ 36 ≤ ((3 * r6) + 2).toNatClampNeg)) (wk_gd (¬ ((32 + (2 * v7)) < 0 ∨ 48 ≤ (32 + (2 * v7)).toNatClampNeg)) (wk_mu (wk_up M24 17 0 0 ((32 + (2 * v7)).toNatClampNeg) ((M24 14 0 0 2) + (M24 18 0 0 (((3 * r6) + 2).toNatClampNeg)))) (fun M27 => wk_cl (f_L_drop r6 M27) (fun _ M29 => (f_L_tick_263 k6 x10 v7 M29))))))))))))))))))))))))) else (f_L_tick_263 k6 v5 v7 M)))
def f_L_tick_18 (k6 : Int64 → Int32 → wk_T → Option (Int64 × wk_T)) : Nat → Int64 → Int32 → Int32 → wk_T → Option (Int64 × wk_T)
  | 0, _, _, _, _ => none
  | n + 1, v5, v7, v8, M => wk_cl (f_L_called v7 M) (fun r1 M2 => (if r1 = 0 then (f_L_tick_95 k6 v5 v7 M2) else (if v8 < 0 then (f_L_tick_95 k6 v5 v7 M2) else wk_gd (¬ ((8 * v8) < 0 ∨ 64 ≤ (8 * v8).toNatClampNeg)) ((if (M2 16 0 0 ((8 * v8).toNatClampNeg)) = 0 then wk_cl (f_L_can v8 M2) (fun r7 M8 => (if r7 = 0 then (f_L_tick_66 k6 (f_L_tick_18 k6 n) v5 v7 v8 M8) else wk_cl (f_L_wake v8 M8) (fun _ M11 => (f_L_tick_66 k6 (f_L_tick_18 k6 n) v5 v7 v8 M11)))) else (f_L_tick_95 k6 v5 v7 M2))))))
def f_L_tick_355 (k272 : Int64 → Int32 → wk_T → Option (Int64 × wk_T)) (v5 : Int64) (v7 : Int32) (s1 : Int32) (s2 : Int32) (s3 : Int32) (M : wk_T) : Option (Int64 × wk_T) := wk_gd (¬ (s1 < 0 ∨ 48 ≤ s1.toNatClampNeg)) (wk_mu (wk_up M 17 0 0 (s1.toNatClampNeg) (s2 + s3)) (fun M2 => wk_lt (v7 + 1) (fun x3 => (k272 v5 x3 M2))))
def f_L_tick_353 (k272 : Int64 → Int32 → wk_T → Option (Int64 × wk_T)) (v5 : Int64) (v7 : Int32) (s1 : Int32) (s2 : Int32) (s4 : Int32) (s5 : Int32) (M : wk_T) : Option (Int64 × wk_T) := wk_gd (¬ ((s4 + s5) < 0 ∨ 64 ≤ (s4 + s5).toNatClampNeg)) ((f_L_tick_355 k272 v5 v7 s1 s2 (M 15 0 0 ((s4 + s5).toNatClampNeg)) M))
def f_L_tick_314 (k272 : Int64 → Int32 → wk_T → Option (Int64 × wk_T)) (v5 : Int64) (v7 : Int32) (v8 : Int32) (s1 : Int32) (s2 : Int32) (M : wk_T) : Option (Int64 × wk_T) := wk_gd (¬ ((s1 + s2) < 0 ∨ 48 ≤ (s1 + s2).toNatClampNeg)) ((if v8 = 1 then (f_L_tick_355 k272 v5 v7 (s1 + s2) (M 17 0 0 ((s1 + s2).toNatClampNeg)) 0 M) else (if v8 = 0 then (f_L_tick_353 k272 v5 v7 (s1 + s2) (M 17 0 0 ((s1 + s2).toNatClampNeg)) (8 * v7) 5 M) else (if v8 = 2 then (f_L_tick_353 k272 v5 v7 (s1 + s2) (M 17 0 0 ((s1 + s2).toNatClampNeg)) (8 * v7) 4 M) else (f_L_tick_353 k272 v5 v7 (s1 + s2) (M 17 0 0 ((s1 + s2).toNatClampNeg)) (8 * v7) 3 M)))))
def f_L_tick_514 (k366 : Int64 → Int32 → wk_T → Option (Int64 × wk_T)) (v5 : Int64) (v7 : Int32) (M : wk_T) : Option (Int64 × wk_T) := wk_lt (v7 + 1) (fun x1 => (k366 v5 x1 M))
def f_L_tick_438 (k366 : Int64 → Int32 → wk_T → Option (Int64 × wk_T)) (v5 : Int64) (v7 : Int32) (s1 : Int32) (s2 : Int32) (M : wk_T) : Option (Int64 × wk_T) := wk_gd (¬ (s1 < 0 ∨ 64 ≤ s1.toNatClampNeg)) (wk_mu (wk_up M 16 0 0 (s1.toNatClampNeg) s2) (fun M2 => (f_L_tick_514 k366 v5 v7 M2)))
def f_L_tick_513 (k366 : Int64 → Int32 → wk_T → Option (Int64 × wk_T)) (v5 : Int64) (v7 : Int32) (s1 : Int32) (s2 : Int32) (M : wk_T) : Option (Int64 × wk_T) := wk_gd (¬ (s1 < 0 ∨ 64 ≤ s1.toNatClampNeg)) (wk_mu (wk_up M 16 0 0 (s1.toNatClampNeg) s2) (fun M2 => (f_L_tick_514 k366 v5 v7 M2)))
def f_L_tick_512 (k366 : Int64 → Int32 → wk_T → Option (Int64 × wk_T)) (v5 : Int64) (v7 : Int32) (s1 : Int32) (M : wk_T) : Option (Int64 × wk_T) := (f_L_tick_513 k366 v5 v7 s1 2 M)
def f_L_tick_366 : Nat → Int64 → Int32 → wk_T → Option (Int64 × wk_T)
  | 0, _, _, _ => none
  | n + 1, v5, v7, M => (if (M 14 0 0 0) ≤ v7 then wk_mu (wk_up M 14 0 0 2 ((M 14 0 0 2) + 1)) (fun M2 => (some (v5, M2))) else wk_gd (¬ ((8 * v7) < 0 ∨ 64 ≤ (8 * v7).toNatClampNeg)) (wk_lt ((M 16 0 0 ((8 * v7).toNatClampNeg))) (fun x4 => (if (wk_rem x4 2) = 1 then wk_gd (¬ (((8 * v7) + 1) < 0 ∨ 64 ≤ ((8 * v7) + 1).toNatClampNeg)) (wk_gd (¬ (((8 * v7) + 1) < 0 ∨ 64 ≤ ((8 * v7) + 1).toNatClampNeg)) (wk_mu (wk_up M 16 0 0 (((8 * v7) + 1).toNatClampNeg) ((M 16 0 0 (((8 * v7) + 1).toNatClampNeg)) - 1)) (fun M20 => wk_gd (¬ (((8 * v7) + 2) < 0 ∨ 64 ≤ ((8 * v7) + 2).toNatClampNeg)) (wk_mu (wk_up M20 16 0 0 (((8 * v7) + 2).toNatClampNeg) 0) (fun M22 => wk_gd (¬ (((8 * v7) + 1) < 0 ∨ 64 ≤ ((8 * v7) + 1).toNatClampNeg)) ((if (M22 16 0 0 (((8 * v7) + 1).toNatClampNeg)) = 0 then (f_L_tick_438 (f_L_tick_366 n) v5 v7 (8 * v7) 2 M22) else (f_L_tick_438 (f_L_tick_366 n) v5 v7 (8 * v7) x4 M22)))))))) else (if x4 = 2 then wk_gd (¬ (((8 * v7) + 2) < 0 ∨ 64 ≤ ((8 * v7) + 2).toNatClampNeg)) (wk_gd (¬ (((8 * v7) + 2) < 0 ∨ 64 ≤ ((8 * v7) + 2).toNatClampNeg)) (wk_mu (wk_up M 16 0 0 (((8 * v7) + 2).toNatClampNeg) ((M 16 0 0 (((8 * v7) + 2).toNatClampNeg)) + 1)) (fun M9 => wk_gd (¬ (((8 * v7) + 3) < 0 ∨ 64 ≤ ((8 * v7) + 3).toNatClampNeg)) (wk_lt ((M9 16 0 0 (((8 * v7) + 3).toNatClampNeg))) (fun x11 => (if x11 ≤ 0 then (f_L_tick_512 (f_L_tick_366 n) v5 v7 (8 * v7) M9) else wk_gd (¬ (((8 * v7) + 2) < 0 ∨ 64 ≤ ((8 * v7) + 2).toNatClampNeg)) ((if (M9 16 0 0 (((8 * v7) + 2).toNatClampNeg)) < x11 then (f_L_tick_512 (f_L_tick_366 n) v5 v7 (8 * v7) M9) else wk_cl (f_L_needed v7 M9) (fun r15 M16 => (if r15 = 0 then (f_L_tick_513 (f_L_tick_366 n) v5 v7 (8 * v7) 0 M16) else (f_L_tick_512 (f_L_tick_366 n) v5 v7 (8 * v7) M16))))))))))) else (f_L_tick_514 (f_L_tick_366 n) v5 v7 M))))))
def f_L_tick_272 : Nat → Int64 → Int32 → wk_T → Option (Int64 × wk_T)
  | 0, _, _, _ => none
  | n + 1, v5, v7, M => (if (M 14 0 0 0) ≤ v7 then (f_L_tick_366 wk_fuel v5 0 M) else wk_gd (¬ ((8 * v7) < 0 ∨ 64 ≤ (8 * v7).toNatClampNeg)) (wk_lt ((M 16 0 0 ((8 * v7).toNatClampNeg))) (fun x3 => (if x3 = 0 then (f_L_tick_314 (f_L_tick_272 n) v5 v7 x3 (4 * v7) 3 M) else (if x3 = 2 then (f_L_tick_314 (f_L_tick_272 n) v5 v7 x3 (4 * v7) 2 M) else (f_L_tick_314 (f_L_tick_272 n) v5 v7 x3 (4 * v7) 1 M))))))
def f_L_tick_6 : Nat → Int64 → Int32 → wk_T → Option (Int64 × wk_T)
  | 0, _, _, _ => none
  | n + 1, v5, v7, M => (if (M 14 0 0 0) ≤ v7 then (f_L_tick_272 wk_fuel v5 0 M) else (f_L_tick_18 (f_L_tick_6 n) wk_fuel v5 v7 v7 M))
def f_L_tick (M : wk_T) : Option (Int64 × wk_T) := (f_L_tick_6 wk_fuel 0 0 M)
set_option maxRecDepth 20000 in
theorem q_L_tick {s : State} {args : Array Value} (hts : ∀ w ∈ wsL_tick, w.before args s = true) : (Cond.constantLong RL 35 (1000)).before args s = true := hts _ (List.mem_of_getElem? (i := 1) rfl)
set_option maxRecDepth 100000 in
set_option maxHeartbeats 4000000 in
theorem w_L_tick_90 {r0 : Int64} (CX : wk_X p l e R s m args below meth c cells slots Q cL_tick 11 RL wsL_tick D y B Lk A 3 73) (RT : wk_Rl p l e R s m args below meth c cells slots Q cL_tick D y B Lk A r0 MM) {k6 : Int64 → Int32 → wk_T → Option (Int64 × wk_T)} (hk6 : ∀ (v5 : Int64) (v7 : Int32) (M : wk_T) (H : Heap) (locs : List Loc) (ls : Array Slot), k6 v5 v7 M = some (r0, MM) → lv_has ls 11 [(0, .ref (B 14 0 0)), (1, .ref (B 15 0 0)), (2, .ref (B 16 0 0)), (3, .ref (B 17 0 0)), (4, .ref (B 18 0 0)), (5, .long v5), (7, .int v7)] → wk_H D y B Lk M H → va_S A s.heap H locs → W p l e R s m args below meth c H locs cells slots Q (F0 m 6 ls [])) {k18 : Int64 → Int32 → Int32 → wk_T → Option (Int64 × wk_T)} (hk18 : ∀ (v5 : Int64) (v7 : Int32) (v8 : Int32) (M : wk_T) (H : Heap) (locs : List Loc) (ls : Array Slot), k18 v5 v7 v8 M = some (r0, MM) → lv_has ls 11 [(0, .ref (B 14 0 0)), (1, .ref (B 15 0 0)), (2, .ref (B 16 0 0)), (3, .ref (B 17 0 0)), (4, .ref (B 18 0 0)), (5, .long v5), (7, .int v7), (8, .int v8)] → wk_H D y B Lk M H → va_S A s.heap H locs → W p l e R s m args below meth c H locs cells slots Q (F0 m 18 ls [])) {v5 : Int64} {v7 : Int32} {s0 : Int32} {M : wk_T} {H : Heap} {locs : List Loc} {ls : Array Slot} (h : f_L_tick_90 k6 k18 v5 v7 s0 M = some (r0, MM)) (hl : lv_has ls 11 [(0, .ref (B 14 0 0)), (1, .ref (B 15 0 0)), (2, .ref (B 16 0 0)), (3, .ref (B 17 0 0)), (4, .ref (B 18 0 0)), (5, .long v5), (7, .int v7)]) (hP : wk_H D y B Lk M H) (hS : va_S A s.heap H locs) : W p l e R s m args below meth c H locs cells slots Q (F0 m 90 ls [.int s0]) := by
  obtain ⟨⟨hx, hb, hml, hown, hts⟩, hK, hI, hL, hA, hfr, hlo, hcs⟩ := id CX
  have q1 := q_L_tick hts
  unfold f_L_tick_90 at h
  refine lv_istore (lv' := [(8, .int s0), (0, .ref (B 14 0 0)), (1, .ref (B 15 0 0)), (2, .ref (B 16 0 0)), (3, .ref (B 17 0 0)), (4, .ref (B 18 0 0)), (5, .long v5), (7, .int v7)]) hx hb dL_tick_90 hl (by decide) rfl (fun ls hl => ?_)
  refine lv_goto (tgt := 18) hx hb dL_tick_92 (by decide) ?_
  exact hk18 _ _ _ _ _ _ _ h (lv_sub hl [1, 2, 3, 4, 5, 6, 7, 0] rfl) hP hS
set_option maxRecDepth 100000 in
set_option maxHeartbeats 4000000 in
theorem w_L_tick_66 {r0 : Int64} (CX : wk_X p l e R s m args below meth c cells slots Q cL_tick 11 RL wsL_tick D y B Lk A 3 73) (RT : wk_Rl p l e R s m args below meth c cells slots Q cL_tick D y B Lk A r0 MM) {k6 : Int64 → Int32 → wk_T → Option (Int64 × wk_T)} (hk6 : ∀ (v5 : Int64) (v7 : Int32) (M : wk_T) (H : Heap) (locs : List Loc) (ls : Array Slot), k6 v5 v7 M = some (r0, MM) → lv_has ls 11 [(0, .ref (B 14 0 0)), (1, .ref (B 15 0 0)), (2, .ref (B 16 0 0)), (3, .ref (B 17 0 0)), (4, .ref (B 18 0 0)), (5, .long v5), (7, .int v7)] → wk_H D y B Lk M H → va_S A s.heap H locs → W p l e R s m args below meth c H locs cells slots Q (F0 m 6 ls [])) {k18 : Int64 → Int32 → Int32 → wk_T → Option (Int64 × wk_T)} (hk18 : ∀ (v5 : Int64) (v7 : Int32) (v8 : Int32) (M : wk_T) (H : Heap) (locs : List Loc) (ls : Array Slot), k18 v5 v7 v8 M = some (r0, MM) → lv_has ls 11 [(0, .ref (B 14 0 0)), (1, .ref (B 15 0 0)), (2, .ref (B 16 0 0)), (3, .ref (B 17 0 0)), (4, .ref (B 18 0 0)), (5, .long v5), (7, .int v7), (8, .int v8)] → wk_H D y B Lk M H → va_S A s.heap H locs → W p l e R s m args below meth c H locs cells slots Q (F0 m 18 ls [])) {v5 : Int64} {v7 : Int32} {v8 : Int32} {M : wk_T} {H : Heap} {locs : List Loc} {ls : Array Slot} (h : f_L_tick_66 k6 k18 v5 v7 v8 M = some (r0, MM)) (hl : lv_has ls 11 [(0, .ref (B 14 0 0)), (1, .ref (B 15 0 0)), (2, .ref (B 16 0 0)), (3, .ref (B 17 0 0)), (4, .ref (B 18 0 0)), (5, .long v5), (7, .int v7), (8, .int v8)]) (hP : wk_H D y B Lk M H) (hS : va_S A s.heap H locs) : W p l e R s m args below meth c H locs cells slots Q (F0 m 66 ls []) := by
  obtain ⟨⟨hx, hb, hml, hown, hts⟩, hK, hI, hL, hA, hfr, hlo, hcs⟩ := id CX
  have q1 := q_L_tick hts
  unfold f_L_tick_66 at h
  refine lv_aload_n hx hb dL_tick_66 rfl (lv_at hl 1 rfl) ?_
  refine lv_aload_n hx hb dL_tick_67 rfl (lv_at hl 2 rfl) ?_
  refine lv_iload hx hb dL_tick_68 (lv_at hl 7 rfl) ?_
  obtain ⟨r1, M2, er1, h⟩ := wk_cl_e h
  refine wk_cSi (As := [.ref (B 15 0 0), .ref (B 16 0 0), .int v8]) (rest := []) ⟨hx, hb, hml, hown, hts⟩ (m_L_ready l hI hL er1) (va_cwS 3 hts gL_tick_L_ready rfl rfl rfl (by decide +kernel) ⟨Nat.le_trans (by decide) hfr, Nat.le_trans (by decide) hlo⟩) hK hP hS hA rfl hl.1 (lv_room (Nat.le_of_ble_eq_true rfl)) hcs dL_tick_70 (fun H locs hP hS => ?_)
  refine lv_if_eq (tgt := 80) hx hb dL_tick_73 (by decide) (fun g3 => ?_) (fun g3 => ?_)
  · have h := wk_p g3 h
    refine lv_aload_n hx hb dL_tick_80 rfl (lv_at hl 1 rfl) ?_
    refine lv_bipush (v := 8) hx hb dL_tick_81 (by decide) ?_
    refine lv_iload hx hb dL_tick_83 (lv_at hl 7 rfl) ?_
    refine lv_imul hx hb dL_tick_85 ?_
    refine lv_bipush (v := 6) hx hb dL_tick_86 (by decide) ?_
    refine lv_iadd hx hb dL_tick_88 ?_
    obtain ⟨g4, h⟩ := wk_gd_e h
    refine wk_iald (j := ((8 * v8) + 6).toNatClampNeg) hx hb hK hP (wk_lL hL 15 (by decide) (by decide)) wk_c15 g4 rfl dL_tick_89 ?_
    exact w_L_tick_90 CX RT hk6 hk18 h (lv_sub hl [0, 1, 2, 3, 4, 5, 6] rfl) hP hS
  · have h := wk_n g3 h
    refine lv_iconst (v := (-1)) hx hb dL_tick_76 (by decide) ?_
    refine lv_goto (tgt := 90) hx hb dL_tick_77 (by decide) ?_
    exact w_L_tick_90 CX RT hk6 hk18 h (lv_sub hl [0, 1, 2, 3, 4, 5, 6] rfl) hP hS
set_option maxRecDepth 100000 in
set_option maxHeartbeats 4000000 in
theorem w_L_tick_263 {r0 : Int64} (CX : wk_X p l e R s m args below meth c cells slots Q cL_tick 11 RL wsL_tick D y B Lk A 3 73) (RT : wk_Rl p l e R s m args below meth c cells slots Q cL_tick D y B Lk A r0 MM) {k6 : Int64 → Int32 → wk_T → Option (Int64 × wk_T)} (hk6 : ∀ (v5 : Int64) (v7 : Int32) (M : wk_T) (H : Heap) (locs : List Loc) (ls : Array Slot), k6 v5 v7 M = some (r0, MM) → lv_has ls 11 [(0, .ref (B 14 0 0)), (1, .ref (B 15 0 0)), (2, .ref (B 16 0 0)), (3, .ref (B 17 0 0)), (4, .ref (B 18 0 0)), (5, .long v5), (7, .int v7)] → wk_H D y B Lk M H → va_S A s.heap H locs → W p l e R s m args below meth c H locs cells slots Q (F0 m 6 ls [])) {v5 : Int64} {v7 : Int32} {M : wk_T} {H : Heap} {locs : List Loc} {ls : Array Slot} (h : f_L_tick_263 k6 v5 v7 M = some (r0, MM)) (hl : lv_has ls 11 [(0, .ref (B 14 0 0)), (1, .ref (B 15 0 0)), (2, .ref (B 16 0 0)), (3, .ref (B 17 0 0)), (4, .ref (B 18 0 0)), (5, .long v5), (7, .int v7)]) (hP : wk_H D y B Lk M H) (hS : va_S A s.heap H locs) : W p l e R s m args below meth c H locs cells slots Q (F0 m 263 ls []) := by
  obtain ⟨⟨hx, hb, hml, hown, hts⟩, hK, hI, hL, hA, hfr, hlo, hcs⟩ := id CX
  have q1 := q_L_tick hts
  unfold f_L_tick_263 at h
  obtain ⟨x1, ex1, h⟩ := wk_lt_e h
  refine lv_iinc (v := x1) (lv' := [(7, .int x1), (0, .ref (B 14 0 0)), (1, .ref (B 15 0 0)), (2, .ref (B 16 0 0)), (3, .ref (B 17 0 0)), (4, .ref (B 18 0 0)), (5, .long v5)]) hx hb dL_tick_263 hl (k := 6) rfl (by rw [← ex1]; rfl) (by decide) rfl (fun ls hl => ?_)
  refine lv_goto (tgt := 6) hx hb dL_tick_266 (by decide) ?_
  exact hk6 _ _ _ _ _ _ h (lv_sub hl [1, 2, 3, 4, 5, 6, 0] rfl) hP hS
set_option maxRecDepth 100000 in
set_option maxHeartbeats 4000000 in
theorem w_L_tick_95 {r0 : Int64} (CX : wk_X p l e R s m args below meth c cells slots Q cL_tick 11 RL wsL_tick D y B Lk A 3 73) (RT : wk_Rl p l e R s m args below meth c cells slots Q cL_tick D y B Lk A r0 MM) {k6 : Int64 → Int32 → wk_T → Option (Int64 × wk_T)} (hk6 : ∀ (v5 : Int64) (v7 : Int32) (M : wk_T) (H : Heap) (locs : List Loc) (ls : Array Slot), k6 v5 v7 M = some (r0, MM) → lv_has ls 11 [(0, .ref (B 14 0 0)), (1, .ref (B 15 0 0)), (2, .ref (B 16 0 0)), (3, .ref (B 17 0 0)), (4, .ref (B 18 0 0)), (5, .long v5), (7, .int v7)] → wk_H D y B Lk M H → va_S A s.heap H locs → W p l e R s m args below meth c H locs cells slots Q (F0 m 6 ls [])) {v5 : Int64} {v7 : Int32} {M : wk_T} {H : Heap} {locs : List Loc} {ls : Array Slot} (h : f_L_tick_95 k6 v5 v7 M = some (r0, MM)) (hl : lv_has ls 11 [(0, .ref (B 14 0 0)), (1, .ref (B 15 0 0)), (2, .ref (B 16 0 0)), (3, .ref (B 17 0 0)), (4, .ref (B 18 0 0)), (5, .long v5), (7, .int v7)]) (hP : wk_H D y B Lk M H) (hS : va_S A s.heap H locs) : W p l e R s m args below meth c H locs cells slots Q (F0 m 95 ls []) := by
  obtain ⟨⟨hx, hb, hml, hown, hts⟩, hK, hI, hL, hA, hfr, hlo, hcs⟩ := id CX
  have q1 := q_L_tick hts
  unfold f_L_tick_95 at h
  refine lv_aload_n hx hb dL_tick_95 rfl (lv_at hl 2 rfl) ?_
  refine lv_bipush (v := 8) hx hb dL_tick_96 (by decide) ?_
  refine lv_iload hx hb dL_tick_98 (lv_at hl 6 rfl) ?_
  refine lv_imul hx hb dL_tick_100 ?_
  obtain ⟨g1, h⟩ := wk_gd_e h
  refine wk_iald (j := (8 * v7).toNatClampNeg) hx hb hK hP (wk_lL hL 16 (by decide) (by decide)) wk_c16 g1 rfl dL_tick_101 ?_
  refine lv_iconst (v := 2) hx hb dL_tick_102 (by decide) ?_
  refine lv_icmp_ne (tgt := 263) hx hb dL_tick_103 (by decide) (fun g2 => ?_) (fun g2 => ?_)
  · have h := wk_n g2 h
    exact w_L_tick_263 CX RT hk6 h (lv_sub hl [0, 1, 2, 3, 4, 5, 6] rfl) hP hS
  · have h := wk_p g2 h
    refine lv_aload_n hx hb dL_tick_106 rfl (lv_at hl 0 rfl) ?_
    refine lv_aload hx hb dL_tick_107 (lv_at hl 4 rfl) ?_
    refine lv_iload hx hb dL_tick_109 (lv_at hl 6 rfl) ?_
    refine lv_iconst (v := 0) hx hb dL_tick_111 (by decide) ?_
    obtain ⟨r3, M4, er3, h⟩ := wk_cl_e h
    refine wk_cSi (As := [.ref (B 14 0 0), .ref (B 18 0 0), .int v7, .int 0]) (rest := []) ⟨hx, hb, hml, hown, hts⟩ (m_L_due l hI hL er3) (va_cwS 4 hts gL_tick_L_due rfl rfl rfl (by decide +kernel) ⟨Nat.le_trans (by decide) hfr, Nat.le_trans (by decide) hlo⟩) hK hP hS hA rfl hl.1 (lv_room (Nat.le_of_ble_eq_true rfl)) hcs dL_tick_112 (fun H locs hP hS => ?_)
    refine lv_if_eq (tgt := 263) hx hb dL_tick_115 (by decide) (fun g5 => ?_) (fun g5 => ?_)
    · have h := wk_p g5 h
      exact w_L_tick_263 CX RT hk6 h (lv_sub hl [0, 1, 2, 3, 4, 5, 6] rfl) hP hS
    · have h := wk_n g5 h
      refine lv_aload_n hx hb dL_tick_118 rfl (lv_at hl 0 rfl) ?_
      refine lv_aload hx hb dL_tick_119 (lv_at hl 4 rfl) ?_
      refine lv_iload hx hb dL_tick_121 (lv_at hl 6 rfl) ?_
      obtain ⟨r6, M7, er6, h⟩ := wk_cl_e h
      refine wk_cSi (As := [.ref (B 14 0 0), .ref (B 18 0 0), .int v7]) (rest := []) ⟨hx, hb, hml, hown, hts⟩ (m_L_first l hI hL er6) (va_cwS 3 hts gL_tick_L_first rfl rfl rfl (by decide +kernel) ⟨Nat.le_trans (by decide) hfr, Nat.le_trans (by decide) hlo⟩) hK hP hS hA rfl hl.1 (lv_room (Nat.le_of_ble_eq_true rfl)) hcs dL_tick_123 (fun H locs hP hS => ?_)
      refine lv_istore (lv' := [(9, .int r6), (0, .ref (B 14 0 0)), (1, .ref (B 15 0 0)), (2, .ref (B 16 0 0)), (3, .ref (B 17 0 0)), (4, .ref (B 18 0 0)), (5, .long v5), (7, .int v7)]) hx hb dL_tick_126 hl (by decide) rfl (fun ls hl => ?_)
      refine lv_aload_n hx hb dL_tick_128 rfl (lv_at hl 1 rfl) ?_
      refine lv_iconst (v := 2) hx hb dL_tick_129 (by decide) ?_
      refine wk_iald (j := 2) hx hb hK hP (wk_lL hL 14 (by decide) (by decide)) wk_c14 (by decide) (by decide) dL_tick_130 ?_
      refine lv_aload hx hb dL_tick_131 (lv_at hl 5 rfl) ?_
      refine lv_iconst (v := 3) hx hb dL_tick_133 (by decide) ?_
      refine lv_iload hx hb dL_tick_134 (lv_at hl 0 rfl) ?_
      refine lv_imul hx hb dL_tick_136 ?_
      refine lv_iconst (v := 1) hx hb dL_tick_137 (by decide) ?_
      refine lv_iadd hx hb dL_tick_138 ?_
      obtain ⟨g8, h⟩ := wk_gd_e h
      refine wk_iald (j := ((3 * r6) + 1).toNatClampNeg) hx hb hK hP (wk_lL hL 18 (by decide) (by decide)) wk_c18 g8 rfl dL_tick_139 ?_
      refine lv_isub hx hb dL_tick_140 ?_
      obtain ⟨x9, ex9, h⟩ := wk_lt_e h
      refine wk_topi ex9 ?_
      refine lv_istore (lv' := [(10, .int x9), (9, .int r6), (0, .ref (B 14 0 0)), (1, .ref (B 15 0 0)), (2, .ref (B 16 0 0)), (3, .ref (B 17 0 0)), (4, .ref (B 18 0 0)), (5, .long v5), (7, .int v7)]) hx hb dL_tick_141 hl (by decide) rfl (fun ls hl => ?_)
      refine lv_lload hx hb dL_tick_143 (lv_at hl 7 rfl) ?_
      refine lv_lconst (v := 1) hx hb dL_tick_145 (by decide) ?_
      refine lv_ldc2 (v := 1000) hx hb hown q1 dL_tick_146 ?_
      refine lv_iload hx hb dL_tick_149 (lv_at hl 0 rfl) ?_
      refine lv_i2l (v := (Int32.toInt64 x9)) hx hb dL_tick_151 rfl ?_
      refine lv_lmul hx hb dL_tick_152 ?_
      refine lv_ladd hx hb dL_tick_153 ?_
      refine lv_ladd hx hb dL_tick_154 ?_
      obtain ⟨x10, ex10, h⟩ := wk_ll_e h
      refine wk_topl ex10 ?_
      refine lv_lstore (lv' := [(5, .long x10), (10, .int x9), (9, .int r6), (0, .ref (B 14 0 0)), (1, .ref (B 15 0 0)), (2, .ref (B 16 0 0)), (3, .ref (B 17 0 0)), (4, .ref (B 18 0 0)), (7, .int v7)]) hx hb dL_tick_155 hl (by decide) rfl (fun ls hl => ?_)
      refine lv_aload_n hx hb dL_tick_157 rfl (lv_at hl 5 rfl) ?_
      refine lv_bipush (v := 8) hx hb dL_tick_158 (by decide) ?_
      refine lv_iload hx hb dL_tick_160 (lv_at hl 8 rfl) ?_
      refine lv_imul hx hb dL_tick_162 ?_
      refine lv_iconst (v := 3) hx hb dL_tick_163 (by decide) ?_
      obtain ⟨g11, h⟩ := wk_gd_e h
      obtain ⟨M12, eM12, h⟩ := wk_mu_e h
      refine wk_iast (j := (8 * v7).toNatClampNeg) hx hb hK hP hI hS hA (wk_lL hL 16 (by decide) (by decide)) wk_c16 g11 rfl (by rfl) dL_tick_164 (fun H locs hP hS => ?_)
      rw [eM12] at hP
      refine lv_aload_n hx hb dL_tick_165 rfl (lv_at hl 5 rfl) ?_
      refine lv_bipush (v := 8) hx hb dL_tick_166 (by decide) ?_
      refine lv_iload hx hb dL_tick_168 (lv_at hl 8 rfl) ?_
      refine lv_imul hx hb dL_tick_170 ?_
      refine lv_iconst (v := 1) hx hb dL_tick_171 (by decide) ?_
      refine lv_iadd hx hb dL_tick_172 ?_
      refine lv_aload hx hb dL_tick_173 (lv_at hl 7 rfl) ?_
      refine lv_iconst (v := 3) hx hb dL_tick_175 (by decide) ?_
      refine lv_iload hx hb dL_tick_176 (lv_at hl 2 rfl) ?_
      refine lv_imul hx hb dL_tick_178 ?_
      refine lv_iconst (v := 2) hx hb dL_tick_179 (by decide) ?_
      refine lv_iadd hx hb dL_tick_180 ?_
      obtain ⟨g13, h⟩ := wk_gd_e h
      refine wk_iald (j := ((3 * r6) + 2).toNatClampNeg) hx hb hK hP (wk_lL hL 18 (by decide) (by decide)) wk_c18 g13 rfl dL_tick_181 ?_
      obtain ⟨g14, h⟩ := wk_gd_e h
      obtain ⟨M15, eM15, h⟩ := wk_mu_e h
      refine wk_iast (j := ((8 * v7) + 1).toNatClampNeg) hx hb hK hP hI hS hA (wk_lL hL 16 (by decide) (by decide)) wk_c16 g14 rfl (by rfl) dL_tick_182 (fun H locs hP hS => ?_)
      rw [eM15] at hP
      refine lv_aload_n hx hb dL_tick_183 rfl (lv_at hl 5 rfl) ?_
      refine lv_bipush (v := 8) hx hb dL_tick_184 (by decide) ?_
      refine lv_iload hx hb dL_tick_186 (lv_at hl 8 rfl) ?_
      refine lv_imul hx hb dL_tick_188 ?_
      refine lv_iconst (v := 5) hx hb dL_tick_189 (by decide) ?_
      refine lv_iadd hx hb dL_tick_190 ?_
      refine lv_dup2_11 hx hb dL_tick_191 rfl rfl ?_
      obtain ⟨g16, h⟩ := wk_gd_e h
      refine wk_iald (j := ((8 * v7) + 5).toNatClampNeg) hx hb hK hP (wk_lL hL 16 (by decide) (by decide)) wk_c16 g16 rfl dL_tick_192 ?_
      refine lv_iconst (v := 1) hx hb dL_tick_193 (by decide) ?_
      refine lv_iadd hx hb dL_tick_194 ?_
      obtain ⟨g17, h⟩ := wk_gd_e h
      obtain ⟨M18, eM18, h⟩ := wk_mu_e h
      refine wk_iast (j := ((8 * v7) + 5).toNatClampNeg) hx hb hK hP hI hS hA (wk_lL hL 16 (by decide) (by decide)) wk_c16 g17 rfl (by rfl) dL_tick_195 (fun H locs hP hS => ?_)
      rw [eM18] at hP
      refine lv_aload_n hx hb dL_tick_196 rfl (lv_at hl 5 rfl) ?_
      refine lv_bipush (v := 8) hx hb dL_tick_197 (by decide) ?_
      refine lv_iload hx hb dL_tick_199 (lv_at hl 8 rfl) ?_
      refine lv_imul hx hb dL_tick_201 ?_
      refine lv_bipush (v := 6) hx hb dL_tick_202 (by decide) ?_
      refine lv_iadd hx hb dL_tick_204 ?_
      refine lv_dup2_11 hx hb dL_tick_205 rfl rfl ?_
      obtain ⟨g19, h⟩ := wk_gd_e h
      refine wk_iald (j := ((8 * v7) + 6).toNatClampNeg) hx hb hK hP (wk_lL hL 16 (by decide) (by decide)) wk_c16 g19 rfl dL_tick_206 ?_
      refine lv_iload hx hb dL_tick_207 (lv_at hl 1 rfl) ?_
      refine lv_iadd hx hb dL_tick_209 ?_
      obtain ⟨g20, h⟩ := wk_gd_e h
      obtain ⟨M21, eM21, h⟩ := wk_mu_e h
      refine wk_iast (j := ((8 * v7) + 6).toNatClampNeg) hx hb hK hP hI hS hA (wk_lL hL 16 (by decide) (by decide)) wk_c16 g20 rfl (by rfl) dL_tick_210 (fun H locs hP hS => ?_)
      rw [eM21] at hP
      refine lv_aload_n hx hb dL_tick_211 rfl (lv_at hl 6 rfl) ?_
      refine lv_bipush (v := 33) hx hb dL_tick_212 (by decide) ?_
      refine lv_iconst (v := 2) hx hb dL_tick_214 (by decide) ?_
      refine lv_iload hx hb dL_tick_215 (lv_at hl 8 rfl) ?_
      refine lv_imul hx hb dL_tick_217 ?_
      refine lv_iadd hx hb dL_tick_218 ?_
      refine lv_aload_n hx hb dL_tick_219 rfl (lv_at hl 3 rfl) ?_
      refine lv_iconst (v := 2) hx hb dL_tick_220 (by decide) ?_
      refine wk_iald (j := 2) hx hb hK hP (wk_lL hL 14 (by decide) (by decide)) wk_c14 (by decide) (by decide) dL_tick_221 ?_
      refine lv_aload_n hx hb dL_tick_222 rfl (lv_at hl 6 rfl) ?_
      refine lv_bipush (v := 32) hx hb dL_tick_223 (by decide) ?_
      refine lv_iconst (v := 2) hx hb dL_tick_225 (by decide) ?_
      refine lv_iload hx hb dL_tick_226 (lv_at hl 8 rfl) ?_
      refine lv_imul hx hb dL_tick_228 ?_
      refine lv_iadd hx hb dL_tick_229 ?_
      obtain ⟨g22, h⟩ := wk_gd_e h
      refine wk_iald (j := (32 + (2 * v7)).toNatClampNeg) hx hb hK hP (wk_lL hL 17 (by decide) (by decide)) wk_c17 g22 rfl dL_tick_230 ?_
      refine lv_isub hx hb dL_tick_231 ?_
      obtain ⟨g23, h⟩ := wk_gd_e h
      obtain ⟨M24, eM24, h⟩ := wk_mu_e h
      refine wk_iast (j := (33 + (2 * v7)).toNatClampNeg) hx hb hK hP hI hS hA (wk_lL hL 17 (by decide) (by decide)) wk_c17 g23 rfl (by rfl) dL_tick_232 (fun H locs hP hS => ?_)
      rw [eM24] at hP
      refine lv_aload_n hx hb dL_tick_233 rfl (lv_at hl 6 rfl) ?_
      refine lv_bipush (v := 32) hx hb dL_tick_234 (by decide) ?_
      refine lv_iconst (v := 2) hx hb dL_tick_236 (by decide) ?_
      refine lv_iload hx hb dL_tick_237 (lv_at hl 8 rfl) ?_
      refine lv_imul hx hb dL_tick_239 ?_
      refine lv_iadd hx hb dL_tick_240 ?_
      refine lv_aload_n hx hb dL_tick_241 rfl (lv_at hl 3 rfl) ?_
      refine lv_iconst (v := 2) hx hb dL_tick_242 (by decide) ?_
      refine wk_iald (j := 2) hx hb hK hP (wk_lL hL 14 (by decide) (by decide)) wk_c14 (by decide) (by decide) dL_tick_243 ?_
      refine lv_aload hx hb dL_tick_244 (lv_at hl 7 rfl) ?_
      refine lv_iconst (v := 3) hx hb dL_tick_246 (by decide) ?_
      refine lv_iload hx hb dL_tick_247 (lv_at hl 2 rfl) ?_
      refine lv_imul hx hb dL_tick_249 ?_
      refine lv_iconst (v := 2) hx hb dL_tick_250 (by decide) ?_
      refine lv_iadd hx hb dL_tick_251 ?_
      obtain ⟨g25, h⟩ := wk_gd_e h
      refine wk_iald (j := ((3 * r6) + 2).toNatClampNeg) hx hb hK hP (wk_lL hL 18 (by decide) (by decide)) wk_c18 g25 rfl dL_tick_252 ?_
      refine lv_iadd hx hb dL_tick_253 ?_
      obtain ⟨g26, h⟩ := wk_gd_e h
      obtain ⟨M27, eM27, h⟩ := wk_mu_e h
      refine wk_iast (j := (32 + (2 * v7)).toNatClampNeg) hx hb hK hP hI hS hA (wk_lL hL 17 (by decide) (by decide)) wk_c17 g26 rfl (by rfl) dL_tick_254 (fun H locs hP hS => ?_)
      rw [eM27] at hP
      refine lv_aload_n hx hb dL_tick_255 rfl (lv_at hl 3 rfl) ?_
      refine lv_aload hx hb dL_tick_256 (lv_at hl 7 rfl) ?_
      refine lv_iload hx hb dL_tick_258 (lv_at hl 2 rfl) ?_
      obtain ⟨r28, M29, er28, h⟩ := wk_cl_e h
      refine wk_cSv (As := [.ref (B 14 0 0), .ref (B 18 0 0), .int r6]) (rest := []) ⟨hx, hb, hml, hown, hts⟩ (m_L_drop l hI hL er28) (va_cwS 3 hts gL_tick_L_drop rfl rfl rfl (by decide +kernel) ⟨Nat.le_trans (by decide) hfr, Nat.le_trans (by decide) hlo⟩) hK hP hS hA rfl hl.1 (lv_room (Nat.le_of_ble_eq_true rfl)) hcs dL_tick_260 (fun H locs hP hS => ?_)
      exact w_L_tick_263 CX RT hk6 h (lv_sub hl [3, 4, 5, 6, 7, 0, 8] rfl) hP hS
set_option maxRecDepth 100000 in
set_option maxHeartbeats 4000000 in
theorem w_L_tick_18 {r0 : Int64} (CX : wk_X p l e R s m args below meth c cells slots Q cL_tick 11 RL wsL_tick D y B Lk A 3 73) (RT : wk_Rl p l e R s m args below meth c cells slots Q cL_tick D y B Lk A r0 MM) {k6 : Int64 → Int32 → wk_T → Option (Int64 × wk_T)} (hk6 : ∀ (v5 : Int64) (v7 : Int32) (M : wk_T) (H : Heap) (locs : List Loc) (ls : Array Slot), k6 v5 v7 M = some (r0, MM) → lv_has ls 11 [(0, .ref (B 14 0 0)), (1, .ref (B 15 0 0)), (2, .ref (B 16 0 0)), (3, .ref (B 17 0 0)), (4, .ref (B 18 0 0)), (5, .long v5), (7, .int v7)] → wk_H D y B Lk M H → va_S A s.heap H locs → W p l e R s m args below meth c H locs cells slots Q (F0 m 6 ls [])) : ∀ (n : Nat) (v5 : Int64) (v7 : Int32) (v8 : Int32) (M : wk_T) (H : Heap) (locs : List Loc) (ls : Array Slot), f_L_tick_18 k6 n v5 v7 v8 M = some (r0, MM) → lv_has ls 11 [(0, .ref (B 14 0 0)), (1, .ref (B 15 0 0)), (2, .ref (B 16 0 0)), (3, .ref (B 17 0 0)), (4, .ref (B 18 0 0)), (5, .long v5), (7, .int v7), (8, .int v8)] → wk_H D y B Lk M H → va_S A s.heap H locs → W p l e R s m args below meth c H locs cells slots Q (F0 m 18 ls []) := by
  obtain ⟨⟨hx, hb, hml, hown, hts⟩, hK, hI, hL, hA, hfr, hlo, hcs⟩ := id CX
  have q1 := q_L_tick hts
  intro n
  induction n with
  | zero =>
    intro v5 v7 v8 M H locs ls h
    exact absurd h (by rw [f_L_tick_18]; exact fun z => nomatch z)
  | succ n ih =>
    intro v5 v7 v8 M H locs ls h hl hP hS
    rw [f_L_tick_18] at h
    refine lv_aload_n hx hb dL_tick_18 rfl (lv_at hl 0 rfl) ?_
    refine lv_aload_n hx hb dL_tick_19 rfl (lv_at hl 1 rfl) ?_
    refine lv_aload_n hx hb dL_tick_20 rfl (lv_at hl 2 rfl) ?_
    refine lv_aload_n hx hb dL_tick_21 rfl (lv_at hl 3 rfl) ?_
    refine lv_aload hx hb dL_tick_22 (lv_at hl 4 rfl) ?_
    refine lv_iload hx hb dL_tick_24 (lv_at hl 6 rfl) ?_
    obtain ⟨r1, M2, er1, h⟩ := wk_cl_e h
    refine wk_cSi (As := [.ref (B 14 0 0), .ref (B 15 0 0), .ref (B 16 0 0), .ref (B 17 0 0), .ref (B 18 0 0), .int v7]) (rest := []) ⟨hx, hb, hml, hown, hts⟩ (m_L_called l hI hL er1) (va_cwS 6 hts gL_tick_L_called rfl rfl rfl (by decide +kernel) ⟨Nat.le_trans (by decide) hfr, Nat.le_trans (by decide) hlo⟩) hK hP hS hA rfl hl.1 (lv_room (Nat.le_of_ble_eq_true rfl)) hcs dL_tick_26 (fun H locs hP hS => ?_)
    refine lv_if_eq (tgt := 95) hx hb dL_tick_29 (by decide) (fun g3 => ?_) (fun g3 => ?_)
    · have h := wk_p g3 h
      exact w_L_tick_95 CX RT hk6 h (lv_sub hl [0, 1, 2, 3, 4, 5, 6] rfl) hP hS
    · have h := wk_n g3 h
      refine lv_iload hx hb dL_tick_32 (lv_at hl 7 rfl) ?_
      refine lv_if_lt (tgt := 95) hx hb dL_tick_34 (by decide) (fun g4 => ?_) (fun g4 => ?_)
      · have h := wk_p g4 h
        exact w_L_tick_95 CX RT hk6 h (lv_sub hl [0, 1, 2, 3, 4, 5, 6] rfl) hP hS
      · have h := wk_n g4 h
        refine lv_aload_n hx hb dL_tick_37 rfl (lv_at hl 2 rfl) ?_
        refine lv_bipush (v := 8) hx hb dL_tick_38 (by decide) ?_
        refine lv_iload hx hb dL_tick_40 (lv_at hl 7 rfl) ?_
        refine lv_imul hx hb dL_tick_42 ?_
        obtain ⟨g5, h⟩ := wk_gd_e h
        refine wk_iald (j := (8 * v8).toNatClampNeg) hx hb hK hP (wk_lL hL 16 (by decide) (by decide)) wk_c16 g5 rfl dL_tick_43 ?_
        refine lv_if_ne (tgt := 95) hx hb dL_tick_44 (by decide) (fun g6 => ?_) (fun g6 => ?_)
        · have h := wk_n g6 h
          exact w_L_tick_95 CX RT hk6 h (lv_sub hl [0, 1, 2, 3, 4, 5, 6] rfl) hP hS
        · have h := wk_p g6 h
          refine lv_aload_n hx hb dL_tick_47 rfl (lv_at hl 0 rfl) ?_
          refine lv_aload_n hx hb dL_tick_48 rfl (lv_at hl 1 rfl) ?_
          refine lv_aload_n hx hb dL_tick_49 rfl (lv_at hl 2 rfl) ?_
          refine lv_iload hx hb dL_tick_50 (lv_at hl 7 rfl) ?_
          obtain ⟨r7, M8, er7, h⟩ := wk_cl_e h
          refine wk_cSi (As := [.ref (B 14 0 0), .ref (B 15 0 0), .ref (B 16 0 0), .int v8]) (rest := []) ⟨hx, hb, hml, hown, hts⟩ (m_L_can l hI hL er7) (va_cwS 4 hts gL_tick_L_can rfl rfl rfl (by decide +kernel) ⟨Nat.le_trans (by decide) hfr, Nat.le_trans (by decide) hlo⟩) hK hP hS hA rfl hl.1 (lv_room (Nat.le_of_ble_eq_true rfl)) hcs dL_tick_52 (fun H locs hP hS => ?_)
          refine lv_if_eq (tgt := 66) hx hb dL_tick_55 (by decide) (fun g9 => ?_) (fun g9 => ?_)
          · have h := wk_p g9 h
            exact w_L_tick_66 CX RT hk6 ih h (lv_sub hl [0, 1, 2, 3, 4, 5, 6, 7] rfl) hP hS
          · have h := wk_n g9 h
            refine lv_aload_n hx hb dL_tick_58 rfl (lv_at hl 1 rfl) ?_
            refine lv_aload_n hx hb dL_tick_59 rfl (lv_at hl 2 rfl) ?_
            refine lv_aload_n hx hb dL_tick_60 rfl (lv_at hl 3 rfl) ?_
            refine lv_iload hx hb dL_tick_61 (lv_at hl 7 rfl) ?_
            obtain ⟨r10, M11, er10, h⟩ := wk_cl_e h
            refine wk_cSv (As := [.ref (B 15 0 0), .ref (B 16 0 0), .ref (B 17 0 0), .int v8]) (rest := []) ⟨hx, hb, hml, hown, hts⟩ (m_L_wake l hI hL er10) (va_cwS 4 hts gL_tick_L_wake rfl rfl rfl (by decide +kernel) ⟨Nat.le_trans (by decide) hfr, Nat.le_trans (by decide) hlo⟩) hK hP hS hA rfl hl.1 (lv_room (Nat.le_of_ble_eq_true rfl)) hcs dL_tick_63 (fun H locs hP hS => ?_)
            exact w_L_tick_66 CX RT hk6 ih h (lv_sub hl [0, 1, 2, 3, 4, 5, 6, 7] rfl) hP hS
set_option maxRecDepth 100000 in
set_option maxHeartbeats 4000000 in
theorem w_L_tick_355 {r0 : Int64} (CX : wk_X p l e R s m args below meth c cells slots Q cL_tick 11 RL wsL_tick D y B Lk A 3 73) (RT : wk_Rl p l e R s m args below meth c cells slots Q cL_tick D y B Lk A r0 MM) {k272 : Int64 → Int32 → wk_T → Option (Int64 × wk_T)} (hk272 : ∀ (v5 : Int64) (v7 : Int32) (M : wk_T) (H : Heap) (locs : List Loc) (ls : Array Slot), k272 v5 v7 M = some (r0, MM) → lv_has ls 11 [(0, .ref (B 14 0 0)), (1, .ref (B 15 0 0)), (2, .ref (B 16 0 0)), (3, .ref (B 17 0 0)), (5, .long v5), (7, .int v7)] → wk_H D y B Lk M H → va_S A s.heap H locs → W p l e R s m args below meth c H locs cells slots Q (F0 m 272 ls [])) {v5 : Int64} {v7 : Int32} {s1 : Int32} {s2 : Int32} {s3 : Int32} {M : wk_T} {H : Heap} {locs : List Loc} {ls : Array Slot} (h : f_L_tick_355 k272 v5 v7 s1 s2 s3 M = some (r0, MM)) (hl : lv_has ls 11 [(0, .ref (B 14 0 0)), (1, .ref (B 15 0 0)), (2, .ref (B 16 0 0)), (3, .ref (B 17 0 0)), (5, .long v5), (7, .int v7)]) (hP : wk_H D y B Lk M H) (hS : va_S A s.heap H locs) : W p l e R s m args below meth c H locs cells slots Q (F0 m 355 ls [.int s3, .int s2, .int s1, .ref (B 17 0 0)]) := by
  obtain ⟨⟨hx, hb, hml, hown, hts⟩, hK, hI, hL, hA, hfr, hlo, hcs⟩ := id CX
  have q1 := q_L_tick hts
  unfold f_L_tick_355 at h
  refine lv_iadd hx hb dL_tick_355 ?_
  obtain ⟨g1, h⟩ := wk_gd_e h
  obtain ⟨M2, eM2, h⟩ := wk_mu_e h
  refine wk_iast (j := s1.toNatClampNeg) hx hb hK hP hI hS hA (wk_lL hL 17 (by decide) (by decide)) wk_c17 g1 rfl (by rfl) dL_tick_356 (fun H locs hP hS => ?_)
  rw [eM2] at hP
  obtain ⟨x3, ex3, h⟩ := wk_lt_e h
  refine lv_iinc (v := x3) (lv' := [(7, .int x3), (0, .ref (B 14 0 0)), (1, .ref (B 15 0 0)), (2, .ref (B 16 0 0)), (3, .ref (B 17 0 0)), (5, .long v5)]) hx hb dL_tick_357 hl (k := 5) rfl (by rw [← ex3]; rfl) (by decide) rfl (fun ls hl => ?_)
  refine lv_goto (tgt := 272) hx hb dL_tick_360 (by decide) ?_
  exact hk272 _ _ _ _ _ _ h (lv_sub hl [1, 2, 3, 4, 5, 0] rfl) hP hS
set_option maxRecDepth 100000 in
set_option maxHeartbeats 4000000 in
theorem w_L_tick_353 {r0 : Int64} (CX : wk_X p l e R s m args below meth c cells slots Q cL_tick 11 RL wsL_tick D y B Lk A 3 73) (RT : wk_Rl p l e R s m args below meth c cells slots Q cL_tick D y B Lk A r0 MM) {k272 : Int64 → Int32 → wk_T → Option (Int64 × wk_T)} (hk272 : ∀ (v5 : Int64) (v7 : Int32) (M : wk_T) (H : Heap) (locs : List Loc) (ls : Array Slot), k272 v5 v7 M = some (r0, MM) → lv_has ls 11 [(0, .ref (B 14 0 0)), (1, .ref (B 15 0 0)), (2, .ref (B 16 0 0)), (3, .ref (B 17 0 0)), (5, .long v5), (7, .int v7)] → wk_H D y B Lk M H → va_S A s.heap H locs → W p l e R s m args below meth c H locs cells slots Q (F0 m 272 ls [])) {v5 : Int64} {v7 : Int32} {s1 : Int32} {s2 : Int32} {s4 : Int32} {s5 : Int32} {M : wk_T} {H : Heap} {locs : List Loc} {ls : Array Slot} (h : f_L_tick_353 k272 v5 v7 s1 s2 s4 s5 M = some (r0, MM)) (hl : lv_has ls 11 [(0, .ref (B 14 0 0)), (1, .ref (B 15 0 0)), (2, .ref (B 16 0 0)), (3, .ref (B 17 0 0)), (5, .long v5), (7, .int v7)]) (hP : wk_H D y B Lk M H) (hS : va_S A s.heap H locs) : W p l e R s m args below meth c H locs cells slots Q (F0 m 353 ls [.int s5, .int s4, .ref (B 15 0 0), .int s2, .int s1, .ref (B 17 0 0)]) := by
  obtain ⟨⟨hx, hb, hml, hown, hts⟩, hK, hI, hL, hA, hfr, hlo, hcs⟩ := id CX
  have q1 := q_L_tick hts
  unfold f_L_tick_353 at h
  refine lv_iadd hx hb dL_tick_353 ?_
  obtain ⟨g1, h⟩ := wk_gd_e h
  refine wk_iald (j := (s4 + s5).toNatClampNeg) hx hb hK hP (wk_lL hL 15 (by decide) (by decide)) wk_c15 g1 rfl dL_tick_354 ?_
  exact w_L_tick_355 CX RT hk272 h (lv_sub hl [0, 1, 2, 3, 4, 5] rfl) hP hS
set_option maxRecDepth 100000 in
set_option maxHeartbeats 4000000 in
theorem w_L_tick_314 {r0 : Int64} (CX : wk_X p l e R s m args below meth c cells slots Q cL_tick 11 RL wsL_tick D y B Lk A 3 73) (RT : wk_Rl p l e R s m args below meth c cells slots Q cL_tick D y B Lk A r0 MM) {k272 : Int64 → Int32 → wk_T → Option (Int64 × wk_T)} (hk272 : ∀ (v5 : Int64) (v7 : Int32) (M : wk_T) (H : Heap) (locs : List Loc) (ls : Array Slot), k272 v5 v7 M = some (r0, MM) → lv_has ls 11 [(0, .ref (B 14 0 0)), (1, .ref (B 15 0 0)), (2, .ref (B 16 0 0)), (3, .ref (B 17 0 0)), (5, .long v5), (7, .int v7)] → wk_H D y B Lk M H → va_S A s.heap H locs → W p l e R s m args below meth c H locs cells slots Q (F0 m 272 ls [])) {v5 : Int64} {v7 : Int32} {v8 : Int32} {s1 : Int32} {s2 : Int32} {M : wk_T} {H : Heap} {locs : List Loc} {ls : Array Slot} (h : f_L_tick_314 k272 v5 v7 v8 s1 s2 M = some (r0, MM)) (hl : lv_has ls 11 [(0, .ref (B 14 0 0)), (1, .ref (B 15 0 0)), (2, .ref (B 16 0 0)), (3, .ref (B 17 0 0)), (5, .long v5), (7, .int v7), (8, .int v8)]) (hP : wk_H D y B Lk M H) (hS : va_S A s.heap H locs) : W p l e R s m args below meth c H locs cells slots Q (F0 m 314 ls [.int s2, .int s1, .ref (B 17 0 0)]) := by
  obtain ⟨⟨hx, hb, hml, hown, hts⟩, hK, hI, hL, hA, hfr, hlo, hcs⟩ := id CX
  have q1 := q_L_tick hts
  unfold f_L_tick_314 at h
  refine lv_iadd hx hb dL_tick_314 ?_
  refine lv_dup2_11 hx hb dL_tick_315 rfl rfl ?_
  obtain ⟨g1, h⟩ := wk_gd_e h
  refine wk_iald (j := (s1 + s2).toNatClampNeg) hx hb hK hP (wk_lL hL 17 (by decide) (by decide)) wk_c17 g1 rfl dL_tick_316 ?_
  refine lv_iload hx hb dL_tick_317 (lv_at hl 6 rfl) ?_
  refine lv_iconst (v := 1) hx hb dL_tick_319 (by decide) ?_
  refine lv_icmp_ne (tgt := 327) hx hb dL_tick_320 (by decide) (fun g2 => ?_) (fun g2 => ?_)
  · have h := wk_n g2 h
    refine lv_aload_n hx hb dL_tick_327 rfl (lv_at hl 1 rfl) ?_
    refine lv_bipush (v := 8) hx hb dL_tick_328 (by decide) ?_
    refine lv_iload hx hb dL_tick_330 (lv_at hl 5 rfl) ?_
    refine lv_imul hx hb dL_tick_332 ?_
    refine lv_iload hx hb dL_tick_333 (lv_at hl 6 rfl) ?_
    refine lv_if_ne (tgt := 342) hx hb dL_tick_335 (by decide) (fun g3 => ?_) (fun g3 => ?_)
    · have h := wk_n g3 h
      refine lv_iload hx hb dL_tick_342 (lv_at hl 6 rfl) ?_
      refine lv_iconst (v := 2) hx hb dL_tick_344 (by decide) ?_
      refine lv_icmp_ne (tgt := 352) hx hb dL_tick_345 (by decide) (fun g4 => ?_) (fun g4 => ?_)
      · have h := wk_n g4 h
        refine lv_iconst (v := 3) hx hb dL_tick_352 (by decide) ?_
        exact w_L_tick_353 CX RT hk272 h (lv_sub hl [0, 1, 2, 3, 4, 5] rfl) hP hS
      · have h := wk_p g4 h
        refine lv_iconst (v := 4) hx hb dL_tick_348 (by decide) ?_
        refine lv_goto (tgt := 353) hx hb dL_tick_349 (by decide) ?_
        exact w_L_tick_353 CX RT hk272 h (lv_sub hl [0, 1, 2, 3, 4, 5] rfl) hP hS
    · have h := wk_p g3 h
      refine lv_iconst (v := 5) hx hb dL_tick_338 (by decide) ?_
      refine lv_goto (tgt := 353) hx hb dL_tick_339 (by decide) ?_
      exact w_L_tick_353 CX RT hk272 h (lv_sub hl [0, 1, 2, 3, 4, 5] rfl) hP hS
  · have h := wk_p g2 h
    refine lv_iconst (v := 0) hx hb dL_tick_323 (by decide) ?_
    refine lv_goto (tgt := 355) hx hb dL_tick_324 (by decide) ?_
    exact w_L_tick_355 CX RT hk272 h (lv_sub hl [0, 1, 2, 3, 4, 5] rfl) hP hS
set_option maxRecDepth 100000 in
set_option maxHeartbeats 4000000 in
theorem w_L_tick_514 {r0 : Int64} (CX : wk_X p l e R s m args below meth c cells slots Q cL_tick 11 RL wsL_tick D y B Lk A 3 73) (RT : wk_Rl p l e R s m args below meth c cells slots Q cL_tick D y B Lk A r0 MM) {k366 : Int64 → Int32 → wk_T → Option (Int64 × wk_T)} (hk366 : ∀ (v5 : Int64) (v7 : Int32) (M : wk_T) (H : Heap) (locs : List Loc) (ls : Array Slot), k366 v5 v7 M = some (r0, MM) → lv_has ls 11 [(0, .ref (B 14 0 0)), (1, .ref (B 15 0 0)), (2, .ref (B 16 0 0)), (5, .long v5), (7, .int v7)] → wk_H D y B Lk M H → va_S A s.heap H locs → W p l e R s m args below meth c H locs cells slots Q (F0 m 366 ls [])) {v5 : Int64} {v7 : Int32} {M : wk_T} {H : Heap} {locs : List Loc} {ls : Array Slot} (h : f_L_tick_514 k366 v5 v7 M = some (r0, MM)) (hl : lv_has ls 11 [(0, .ref (B 14 0 0)), (1, .ref (B 15 0 0)), (2, .ref (B 16 0 0)), (5, .long v5), (7, .int v7)]) (hP : wk_H D y B Lk M H) (hS : va_S A s.heap H locs) : W p l e R s m args below meth c H locs cells slots Q (F0 m 514 ls []) := by
  obtain ⟨⟨hx, hb, hml, hown, hts⟩, hK, hI, hL, hA, hfr, hlo, hcs⟩ := id CX
  have q1 := q_L_tick hts
  unfold f_L_tick_514 at h
  obtain ⟨x1, ex1, h⟩ := wk_lt_e h
  refine lv_iinc (v := x1) (lv' := [(7, .int x1), (0, .ref (B 14 0 0)), (1, .ref (B 15 0 0)), (2, .ref (B 16 0 0)), (5, .long v5)]) hx hb dL_tick_514 hl (k := 4) rfl (by rw [← ex1]; rfl) (by decide) rfl (fun ls hl => ?_)
  refine lv_goto (tgt := 366) hx hb dL_tick_517 (by decide) ?_
  exact hk366 _ _ _ _ _ _ h (lv_sub hl [1, 2, 3, 4, 0] rfl) hP hS
set_option maxRecDepth 100000 in
set_option maxHeartbeats 4000000 in
theorem w_L_tick_438 {r0 : Int64} (CX : wk_X p l e R s m args below meth c cells slots Q cL_tick 11 RL wsL_tick D y B Lk A 3 73) (RT : wk_Rl p l e R s m args below meth c cells slots Q cL_tick D y B Lk A r0 MM) {k366 : Int64 → Int32 → wk_T → Option (Int64 × wk_T)} (hk366 : ∀ (v5 : Int64) (v7 : Int32) (M : wk_T) (H : Heap) (locs : List Loc) (ls : Array Slot), k366 v5 v7 M = some (r0, MM) → lv_has ls 11 [(0, .ref (B 14 0 0)), (1, .ref (B 15 0 0)), (2, .ref (B 16 0 0)), (5, .long v5), (7, .int v7)] → wk_H D y B Lk M H → va_S A s.heap H locs → W p l e R s m args below meth c H locs cells slots Q (F0 m 366 ls [])) {v5 : Int64} {v7 : Int32} {s1 : Int32} {s2 : Int32} {M : wk_T} {H : Heap} {locs : List Loc} {ls : Array Slot} (h : f_L_tick_438 k366 v5 v7 s1 s2 M = some (r0, MM)) (hl : lv_has ls 11 [(0, .ref (B 14 0 0)), (1, .ref (B 15 0 0)), (2, .ref (B 16 0 0)), (5, .long v5), (7, .int v7)]) (hP : wk_H D y B Lk M H) (hS : va_S A s.heap H locs) : W p l e R s m args below meth c H locs cells slots Q (F0 m 438 ls [.int s2, .int s1, .ref (B 16 0 0)]) := by
  obtain ⟨⟨hx, hb, hml, hown, hts⟩, hK, hI, hL, hA, hfr, hlo, hcs⟩ := id CX
  have q1 := q_L_tick hts
  unfold f_L_tick_438 at h
  obtain ⟨g1, h⟩ := wk_gd_e h
  obtain ⟨M2, eM2, h⟩ := wk_mu_e h
  refine wk_iast (j := s1.toNatClampNeg) hx hb hK hP hI hS hA (wk_lL hL 16 (by decide) (by decide)) wk_c16 g1 rfl (by rfl) dL_tick_438 (fun H locs hP hS => ?_)
  rw [eM2] at hP
  refine lv_goto (tgt := 514) hx hb dL_tick_439 (by decide) ?_
  exact w_L_tick_514 CX RT hk366 h (lv_sub hl [0, 1, 2, 3, 4] rfl) hP hS
set_option maxRecDepth 100000 in
set_option maxHeartbeats 4000000 in
theorem w_L_tick_513 {r0 : Int64} (CX : wk_X p l e R s m args below meth c cells slots Q cL_tick 11 RL wsL_tick D y B Lk A 3 73) (RT : wk_Rl p l e R s m args below meth c cells slots Q cL_tick D y B Lk A r0 MM) {k366 : Int64 → Int32 → wk_T → Option (Int64 × wk_T)} (hk366 : ∀ (v5 : Int64) (v7 : Int32) (M : wk_T) (H : Heap) (locs : List Loc) (ls : Array Slot), k366 v5 v7 M = some (r0, MM) → lv_has ls 11 [(0, .ref (B 14 0 0)), (1, .ref (B 15 0 0)), (2, .ref (B 16 0 0)), (5, .long v5), (7, .int v7)] → wk_H D y B Lk M H → va_S A s.heap H locs → W p l e R s m args below meth c H locs cells slots Q (F0 m 366 ls [])) {v5 : Int64} {v7 : Int32} {s1 : Int32} {s2 : Int32} {M : wk_T} {H : Heap} {locs : List Loc} {ls : Array Slot} (h : f_L_tick_513 k366 v5 v7 s1 s2 M = some (r0, MM)) (hl : lv_has ls 11 [(0, .ref (B 14 0 0)), (1, .ref (B 15 0 0)), (2, .ref (B 16 0 0)), (5, .long v5), (7, .int v7)]) (hP : wk_H D y B Lk M H) (hS : va_S A s.heap H locs) : W p l e R s m args below meth c H locs cells slots Q (F0 m 513 ls [.int s2, .int s1, .ref (B 16 0 0)]) := by
  obtain ⟨⟨hx, hb, hml, hown, hts⟩, hK, hI, hL, hA, hfr, hlo, hcs⟩ := id CX
  have q1 := q_L_tick hts
  unfold f_L_tick_513 at h
  obtain ⟨g1, h⟩ := wk_gd_e h
  obtain ⟨M2, eM2, h⟩ := wk_mu_e h
  refine wk_iast (j := s1.toNatClampNeg) hx hb hK hP hI hS hA (wk_lL hL 16 (by decide) (by decide)) wk_c16 g1 rfl (by rfl) dL_tick_513 (fun H locs hP hS => ?_)
  rw [eM2] at hP
  exact w_L_tick_514 CX RT hk366 h (lv_sub hl [0, 1, 2, 3, 4] rfl) hP hS
set_option maxRecDepth 100000 in
set_option maxHeartbeats 4000000 in
theorem w_L_tick_512 {r0 : Int64} (CX : wk_X p l e R s m args below meth c cells slots Q cL_tick 11 RL wsL_tick D y B Lk A 3 73) (RT : wk_Rl p l e R s m args below meth c cells slots Q cL_tick D y B Lk A r0 MM) {k366 : Int64 → Int32 → wk_T → Option (Int64 × wk_T)} (hk366 : ∀ (v5 : Int64) (v7 : Int32) (M : wk_T) (H : Heap) (locs : List Loc) (ls : Array Slot), k366 v5 v7 M = some (r0, MM) → lv_has ls 11 [(0, .ref (B 14 0 0)), (1, .ref (B 15 0 0)), (2, .ref (B 16 0 0)), (5, .long v5), (7, .int v7)] → wk_H D y B Lk M H → va_S A s.heap H locs → W p l e R s m args below meth c H locs cells slots Q (F0 m 366 ls [])) {v5 : Int64} {v7 : Int32} {s1 : Int32} {M : wk_T} {H : Heap} {locs : List Loc} {ls : Array Slot} (h : f_L_tick_512 k366 v5 v7 s1 M = some (r0, MM)) (hl : lv_has ls 11 [(0, .ref (B 14 0 0)), (1, .ref (B 15 0 0)), (2, .ref (B 16 0 0)), (5, .long v5), (7, .int v7)]) (hP : wk_H D y B Lk M H) (hS : va_S A s.heap H locs) : W p l e R s m args below meth c H locs cells slots Q (F0 m 512 ls [.int s1, .ref (B 16 0 0)]) := by
  obtain ⟨⟨hx, hb, hml, hown, hts⟩, hK, hI, hL, hA, hfr, hlo, hcs⟩ := id CX
  have q1 := q_L_tick hts
  unfold f_L_tick_512 at h
  refine lv_iconst (v := 2) hx hb dL_tick_512 (by decide) ?_
  exact w_L_tick_513 CX RT hk366 h (lv_sub hl [0, 1, 2, 3, 4] rfl) hP hS
set_option maxRecDepth 100000 in
set_option maxHeartbeats 4000000 in
theorem w_L_tick_366 {r0 : Int64} (CX : wk_X p l e R s m args below meth c cells slots Q cL_tick 11 RL wsL_tick D y B Lk A 3 73) (RT : wk_Rl p l e R s m args below meth c cells slots Q cL_tick D y B Lk A r0 MM) : ∀ (n : Nat) (v5 : Int64) (v7 : Int32) (M : wk_T) (H : Heap) (locs : List Loc) (ls : Array Slot), f_L_tick_366 n v5 v7 M = some (r0, MM) → lv_has ls 11 [(0, .ref (B 14 0 0)), (1, .ref (B 15 0 0)), (2, .ref (B 16 0 0)), (5, .long v5), (7, .int v7)] → wk_H D y B Lk M H → va_S A s.heap H locs → W p l e R s m args below meth c H locs cells slots Q (F0 m 366 ls []) := by
  obtain ⟨⟨hx, hb, hml, hown, hts⟩, hK, hI, hL, hA, hfr, hlo, hcs⟩ := id CX
  have q1 := q_L_tick hts
  intro n
  induction n with
  | zero =>
    intro v5 v7 M H locs ls h
    exact absurd h (by rw [f_L_tick_366]; exact fun z => nomatch z)
  | succ n ih =>
    intro v5 v7 M H locs ls h hl hP hS
    rw [f_L_tick_366] at h
    refine lv_iload hx hb dL_tick_366 (lv_at hl 4 rfl) ?_
    refine lv_aload_n hx hb dL_tick_368 rfl (lv_at hl 0 rfl) ?_
    refine lv_iconst (v := 0) hx hb dL_tick_369 (by decide) ?_
    refine wk_iald (j := 0) hx hb hK hP (wk_lL hL 14 (by decide) (by decide)) wk_c14 (by decide) (by decide) dL_tick_370 ?_
    refine lv_icmp_ge (tgt := 520) hx hb dL_tick_371 (by decide) (fun g1 => ?_) (fun g1 => ?_)
    · have h := wk_p g1 h
      refine lv_aload_n hx hb dL_tick_520 rfl (lv_at hl 0 rfl) ?_
      refine lv_iconst (v := 2) hx hb dL_tick_521 (by decide) ?_
      refine lv_dup2_11 hx hb dL_tick_522 rfl rfl ?_
      refine wk_iald (j := 2) hx hb hK hP (wk_lL hL 14 (by decide) (by decide)) wk_c14 (by decide) (by decide) dL_tick_523 ?_
      refine lv_iconst (v := 1) hx hb dL_tick_524 (by decide) ?_
      refine lv_iadd hx hb dL_tick_525 ?_
      obtain ⟨M2, eM2, h⟩ := wk_mu_e h
      refine wk_iast (j := 2) hx hb hK hP hI hS hA (wk_lL hL 14 (by decide) (by decide)) wk_c14 (by decide) (by decide) (by rfl) dL_tick_526 (fun H locs hP hS => ?_)
      rw [eM2] at hP
      refine lv_lload hx hb dL_tick_527 (lv_at hl 3 rfl) ?_
      exact RT _ _ _ _ _ _ h hP hS dL_tick_529
    · have h := wk_n g1 h
      refine lv_aload_n hx hb dL_tick_374 rfl (lv_at hl 2 rfl) ?_
      refine lv_bipush (v := 8) hx hb dL_tick_375 (by decide) ?_
      refine lv_iload hx hb dL_tick_377 (lv_at hl 4 rfl) ?_
      refine lv_imul hx hb dL_tick_379 ?_
      obtain ⟨g3, h⟩ := wk_gd_e h
      refine wk_iald (j := (8 * v7).toNatClampNeg) hx hb hK hP (wk_lL hL 16 (by decide) (by decide)) wk_c16 g3 rfl dL_tick_380 ?_
      obtain ⟨x4, ex4, h⟩ := wk_lt_e h
      refine wk_topi ex4 ?_
      refine lv_istore (lv' := [(8, .int x4), (0, .ref (B 14 0 0)), (1, .ref (B 15 0 0)), (2, .ref (B 16 0 0)), (5, .long v5), (7, .int v7)]) hx hb dL_tick_381 hl (by decide) rfl (fun ls hl => ?_)
      refine lv_iload hx hb dL_tick_383 (lv_at hl 0 rfl) ?_
      refine lv_iconst (v := 2) hx hb dL_tick_385 (by decide) ?_
      refine wk_irem hx hb (by decide) dL_tick_386 ?_
      refine lv_iconst (v := 1) hx hb dL_tick_387 (by decide) ?_
      refine lv_icmp_ne (tgt := 442) hx hb dL_tick_388 (by decide) (fun g5 => ?_) (fun g5 => ?_)
      · have h := wk_n g5 h
        refine lv_iload hx hb dL_tick_442 (lv_at hl 0 rfl) ?_
        refine lv_iconst (v := 2) hx hb dL_tick_444 (by decide) ?_
        refine lv_icmp_ne (tgt := 514) hx hb dL_tick_445 (by decide) (fun g6 => ?_) (fun g6 => ?_)
        · have h := wk_n g6 h
          exact w_L_tick_514 CX RT ih h (lv_sub hl [1, 2, 3, 4, 5] rfl) hP hS
        · have h := wk_p g6 h
          refine lv_aload_n hx hb dL_tick_448 rfl (lv_at hl 3 rfl) ?_
          refine lv_bipush (v := 8) hx hb dL_tick_449 (by decide) ?_
          refine lv_iload hx hb dL_tick_451 (lv_at hl 5 rfl) ?_
          refine lv_imul hx hb dL_tick_453 ?_
          refine lv_iconst (v := 2) hx hb dL_tick_454 (by decide) ?_
          refine lv_iadd hx hb dL_tick_455 ?_
          refine lv_dup2_11 hx hb dL_tick_456 rfl rfl ?_
          obtain ⟨g7, h⟩ := wk_gd_e h
          refine wk_iald (j := ((8 * v7) + 2).toNatClampNeg) hx hb hK hP (wk_lL hL 16 (by decide) (by decide)) wk_c16 g7 rfl dL_tick_457 ?_
          refine lv_iconst (v := 1) hx hb dL_tick_458 (by decide) ?_
          refine lv_iadd hx hb dL_tick_459 ?_
          obtain ⟨g8, h⟩ := wk_gd_e h
          obtain ⟨M9, eM9, h⟩ := wk_mu_e h
          refine wk_iast (j := ((8 * v7) + 2).toNatClampNeg) hx hb hK hP hI hS hA (wk_lL hL 16 (by decide) (by decide)) wk_c16 g8 rfl (by rfl) dL_tick_460 (fun H locs hP hS => ?_)
          rw [eM9] at hP
          refine lv_aload_n hx hb dL_tick_461 rfl (lv_at hl 3 rfl) ?_
          refine lv_bipush (v := 8) hx hb dL_tick_462 (by decide) ?_
          refine lv_iload hx hb dL_tick_464 (lv_at hl 5 rfl) ?_
          refine lv_imul hx hb dL_tick_466 ?_
          refine lv_iconst (v := 3) hx hb dL_tick_467 (by decide) ?_
          refine lv_iadd hx hb dL_tick_468 ?_
          obtain ⟨g10, h⟩ := wk_gd_e h
          refine wk_iald (j := ((8 * v7) + 3).toNatClampNeg) hx hb hK hP (wk_lL hL 16 (by decide) (by decide)) wk_c16 g10 rfl dL_tick_469 ?_
          obtain ⟨x11, ex11, h⟩ := wk_lt_e h
          refine wk_topi ex11 ?_
          refine lv_istore (lv' := [(9, .int x11), (8, .int x4), (0, .ref (B 14 0 0)), (1, .ref (B 15 0 0)), (2, .ref (B 16 0 0)), (5, .long v5), (7, .int v7)]) hx hb dL_tick_470 hl (by decide) rfl (fun ls hl => ?_)
          refine lv_aload_n hx hb dL_tick_472 rfl (lv_at hl 4 rfl) ?_
          refine lv_bipush (v := 8) hx hb dL_tick_473 (by decide) ?_
          refine lv_iload hx hb dL_tick_475 (lv_at hl 6 rfl) ?_
          refine lv_imul hx hb dL_tick_477 ?_
          refine lv_iload hx hb dL_tick_478 (lv_at hl 0 rfl) ?_
          refine lv_if_le (tgt := 512) hx hb dL_tick_480 (by decide) (fun g12 => ?_) (fun g12 => ?_)
          · have h := wk_p g12 h
            exact w_L_tick_512 CX RT ih h (lv_sub hl [2, 3, 4, 5, 6] rfl) hP hS
          · have h := wk_n g12 h
            refine lv_aload_n hx hb dL_tick_483 rfl (lv_at hl 4 rfl) ?_
            refine lv_bipush (v := 8) hx hb dL_tick_484 (by decide) ?_
            refine lv_iload hx hb dL_tick_486 (lv_at hl 6 rfl) ?_
            refine lv_imul hx hb dL_tick_488 ?_
            refine lv_iconst (v := 2) hx hb dL_tick_489 (by decide) ?_
            refine lv_iadd hx hb dL_tick_490 ?_
            obtain ⟨g13, h⟩ := wk_gd_e h
            refine wk_iald (j := ((8 * v7) + 2).toNatClampNeg) hx hb hK hP (wk_lL hL 16 (by decide) (by decide)) wk_c16 g13 rfl dL_tick_491 ?_
            refine lv_iload hx hb dL_tick_492 (lv_at hl 0 rfl) ?_
            refine lv_icmp_lt (tgt := 512) hx hb dL_tick_494 (by decide) (fun g14 => ?_) (fun g14 => ?_)
            · have h := wk_p g14 h
              exact w_L_tick_512 CX RT ih h (lv_sub hl [2, 3, 4, 5, 6] rfl) hP hS
            · have h := wk_n g14 h
              refine lv_aload_n hx hb dL_tick_497 rfl (lv_at hl 2 rfl) ?_
              refine lv_aload_n hx hb dL_tick_498 rfl (lv_at hl 3 rfl) ?_
              refine lv_aload_n hx hb dL_tick_499 rfl (lv_at hl 4 rfl) ?_
              refine lv_iload hx hb dL_tick_500 (lv_at hl 6 rfl) ?_
              obtain ⟨r15, M16, er15, h⟩ := wk_cl_e h
              refine wk_cSi (As := [.ref (B 14 0 0), .ref (B 15 0 0), .ref (B 16 0 0), .int v7]) (rest := [.int (8 * v7), .ref (B 16 0 0)]) ⟨hx, hb, hml, hown, hts⟩ (m_L_needed l hI hL er15) (va_cwS 4 hts gL_tick_L_needed rfl rfl rfl (by decide +kernel) ⟨Nat.le_trans (by decide) hfr, Nat.le_trans (by decide) hlo⟩) hK hP hS hA rfl hl.1 (lv_room (Nat.le_of_ble_eq_true rfl)) hcs dL_tick_502 (fun H locs hP hS => ?_)
              refine lv_if_ne (tgt := 512) hx hb dL_tick_505 (by decide) (fun g17 => ?_) (fun g17 => ?_)
              · have h := wk_n g17 h
                exact w_L_tick_512 CX RT ih h (lv_sub hl [2, 3, 4, 5, 6] rfl) hP hS
              · have h := wk_p g17 h
                refine lv_iconst (v := 0) hx hb dL_tick_508 (by decide) ?_
                refine lv_goto (tgt := 513) hx hb dL_tick_509 (by decide) ?_
                exact w_L_tick_513 CX RT ih h (lv_sub hl [2, 3, 4, 5, 6] rfl) hP hS
      · have h := wk_p g5 h
        refine lv_aload_n hx hb dL_tick_391 rfl (lv_at hl 3 rfl) ?_
        refine lv_bipush (v := 8) hx hb dL_tick_392 (by decide) ?_
        refine lv_iload hx hb dL_tick_394 (lv_at hl 5 rfl) ?_
        refine lv_imul hx hb dL_tick_396 ?_
        refine lv_iconst (v := 1) hx hb dL_tick_397 (by decide) ?_
        refine lv_iadd hx hb dL_tick_398 ?_
        refine lv_dup2_11 hx hb dL_tick_399 rfl rfl ?_
        obtain ⟨g18, h⟩ := wk_gd_e h
        refine wk_iald (j := ((8 * v7) + 1).toNatClampNeg) hx hb hK hP (wk_lL hL 16 (by decide) (by decide)) wk_c16 g18 rfl dL_tick_400 ?_
        refine lv_iconst (v := 1) hx hb dL_tick_401 (by decide) ?_
        refine lv_isub hx hb dL_tick_402 ?_
        obtain ⟨g19, h⟩ := wk_gd_e h
        obtain ⟨M20, eM20, h⟩ := wk_mu_e h
        refine wk_iast (j := ((8 * v7) + 1).toNatClampNeg) hx hb hK hP hI hS hA (wk_lL hL 16 (by decide) (by decide)) wk_c16 g19 rfl (by rfl) dL_tick_403 (fun H locs hP hS => ?_)
        rw [eM20] at hP
        refine lv_aload_n hx hb dL_tick_404 rfl (lv_at hl 3 rfl) ?_
        refine lv_bipush (v := 8) hx hb dL_tick_405 (by decide) ?_
        refine lv_iload hx hb dL_tick_407 (lv_at hl 5 rfl) ?_
        refine lv_imul hx hb dL_tick_409 ?_
        refine lv_iconst (v := 2) hx hb dL_tick_410 (by decide) ?_
        refine lv_iadd hx hb dL_tick_411 ?_
        refine lv_iconst (v := 0) hx hb dL_tick_412 (by decide) ?_
        obtain ⟨g21, h⟩ := wk_gd_e h
        obtain ⟨M22, eM22, h⟩ := wk_mu_e h
        refine wk_iast (j := ((8 * v7) + 2).toNatClampNeg) hx hb hK hP hI hS hA (wk_lL hL 16 (by decide) (by decide)) wk_c16 g21 rfl (by rfl) dL_tick_413 (fun H locs hP hS => ?_)
        rw [eM22] at hP
        refine lv_aload_n hx hb dL_tick_414 rfl (lv_at hl 3 rfl) ?_
        refine lv_bipush (v := 8) hx hb dL_tick_415 (by decide) ?_
        refine lv_iload hx hb dL_tick_417 (lv_at hl 5 rfl) ?_
        refine lv_imul hx hb dL_tick_419 ?_
        refine lv_aload_n hx hb dL_tick_420 rfl (lv_at hl 3 rfl) ?_
        refine lv_bipush (v := 8) hx hb dL_tick_421 (by decide) ?_
        refine lv_iload hx hb dL_tick_423 (lv_at hl 5 rfl) ?_
        refine lv_imul hx hb dL_tick_425 ?_
        refine lv_iconst (v := 1) hx hb dL_tick_426 (by decide) ?_
        refine lv_iadd hx hb dL_tick_427 ?_
        obtain ⟨g23, h⟩ := wk_gd_e h
        refine wk_iald (j := ((8 * v7) + 1).toNatClampNeg) hx hb hK hP (wk_lL hL 16 (by decide) (by decide)) wk_c16 g23 rfl dL_tick_428 ?_
        refine lv_if_ne (tgt := 436) hx hb dL_tick_429 (by decide) (fun g24 => ?_) (fun g24 => ?_)
        · have h := wk_n g24 h
          refine lv_iload hx hb dL_tick_436 (lv_at hl 0 rfl) ?_
          exact w_L_tick_438 CX RT ih h (lv_sub hl [1, 2, 3, 4, 5] rfl) hP hS
        · have h := wk_p g24 h
          refine lv_iconst (v := 2) hx hb dL_tick_432 (by decide) ?_
          refine lv_goto (tgt := 438) hx hb dL_tick_433 (by decide) ?_
          exact w_L_tick_438 CX RT ih h (lv_sub hl [1, 2, 3, 4, 5] rfl) hP hS
set_option maxRecDepth 100000 in
set_option maxHeartbeats 4000000 in
theorem w_L_tick_272 {r0 : Int64} (CX : wk_X p l e R s m args below meth c cells slots Q cL_tick 11 RL wsL_tick D y B Lk A 3 73) (RT : wk_Rl p l e R s m args below meth c cells slots Q cL_tick D y B Lk A r0 MM) : ∀ (n : Nat) (v5 : Int64) (v7 : Int32) (M : wk_T) (H : Heap) (locs : List Loc) (ls : Array Slot), f_L_tick_272 n v5 v7 M = some (r0, MM) → lv_has ls 11 [(0, .ref (B 14 0 0)), (1, .ref (B 15 0 0)), (2, .ref (B 16 0 0)), (3, .ref (B 17 0 0)), (5, .long v5), (7, .int v7)] → wk_H D y B Lk M H → va_S A s.heap H locs → W p l e R s m args below meth c H locs cells slots Q (F0 m 272 ls []) := by
  obtain ⟨⟨hx, hb, hml, hown, hts⟩, hK, hI, hL, hA, hfr, hlo, hcs⟩ := id CX
  have q1 := q_L_tick hts
  intro n
  induction n with
  | zero =>
    intro v5 v7 M H locs ls h
    exact absurd h (by rw [f_L_tick_272]; exact fun z => nomatch z)
  | succ n ih =>
    intro v5 v7 M H locs ls h hl hP hS
    rw [f_L_tick_272] at h
    refine lv_iload hx hb dL_tick_272 (lv_at hl 5 rfl) ?_
    refine lv_aload_n hx hb dL_tick_274 rfl (lv_at hl 0 rfl) ?_
    refine lv_iconst (v := 0) hx hb dL_tick_275 (by decide) ?_
    refine wk_iald (j := 0) hx hb hK hP (wk_lL hL 14 (by decide) (by decide)) wk_c14 (by decide) (by decide) dL_tick_276 ?_
    refine lv_icmp_ge (tgt := 363) hx hb dL_tick_277 (by decide) (fun g1 => ?_) (fun g1 => ?_)
    · have h := wk_p g1 h
      refine lv_iconst (v := 0) hx hb dL_tick_363 (by decide) ?_
      refine lv_istore (lv' := [(7, .int 0), (0, .ref (B 14 0 0)), (1, .ref (B 15 0 0)), (2, .ref (B 16 0 0)), (3, .ref (B 17 0 0)), (5, .long v5)]) hx hb dL_tick_364 hl (by decide) rfl (fun ls hl => ?_)
      exact w_L_tick_366 CX RT wk_fuel _ _ _ _ _ _ h (lv_sub hl [1, 2, 3, 5, 0] rfl) hP hS
    · have h := wk_n g1 h
      refine lv_aload_n hx hb dL_tick_280 rfl (lv_at hl 2 rfl) ?_
      refine lv_bipush (v := 8) hx hb dL_tick_281 (by decide) ?_
      refine lv_iload hx hb dL_tick_283 (lv_at hl 5 rfl) ?_
      refine lv_imul hx hb dL_tick_285 ?_
      obtain ⟨g2, h⟩ := wk_gd_e h
      refine wk_iald (j := (8 * v7).toNatClampNeg) hx hb hK hP (wk_lL hL 16 (by decide) (by decide)) wk_c16 g2 rfl dL_tick_286 ?_
      obtain ⟨x3, ex3, h⟩ := wk_lt_e h
      refine wk_topi ex3 ?_
      refine lv_istore (lv' := [(8, .int x3), (0, .ref (B 14 0 0)), (1, .ref (B 15 0 0)), (2, .ref (B 16 0 0)), (3, .ref (B 17 0 0)), (5, .long v5), (7, .int v7)]) hx hb dL_tick_287 hl (by decide) rfl (fun ls hl => ?_)
      refine lv_aload_n hx hb dL_tick_289 rfl (lv_at hl 4 rfl) ?_
      refine lv_iconst (v := 4) hx hb dL_tick_290 (by decide) ?_
      refine lv_iload hx hb dL_tick_291 (lv_at hl 6 rfl) ?_
      refine lv_imul hx hb dL_tick_293 ?_
      refine lv_iload hx hb dL_tick_294 (lv_at hl 0 rfl) ?_
      refine lv_if_ne (tgt := 303) hx hb dL_tick_296 (by decide) (fun g4 => ?_) (fun g4 => ?_)
      · have h := wk_n g4 h
        refine lv_iload hx hb dL_tick_303 (lv_at hl 0 rfl) ?_
        refine lv_iconst (v := 2) hx hb dL_tick_305 (by decide) ?_
        refine lv_icmp_ne (tgt := 313) hx hb dL_tick_306 (by decide) (fun g5 => ?_) (fun g5 => ?_)
        · have h := wk_n g5 h
          refine lv_iconst (v := 1) hx hb dL_tick_313 (by decide) ?_
          exact w_L_tick_314 CX RT ih h (lv_sub hl [1, 2, 3, 4, 5, 6, 0] rfl) hP hS
        · have h := wk_p g5 h
          refine lv_iconst (v := 2) hx hb dL_tick_309 (by decide) ?_
          refine lv_goto (tgt := 314) hx hb dL_tick_310 (by decide) ?_
          exact w_L_tick_314 CX RT ih h (lv_sub hl [1, 2, 3, 4, 5, 6, 0] rfl) hP hS
      · have h := wk_p g4 h
        refine lv_iconst (v := 3) hx hb dL_tick_299 (by decide) ?_
        refine lv_goto (tgt := 314) hx hb dL_tick_300 (by decide) ?_
        exact w_L_tick_314 CX RT ih h (lv_sub hl [1, 2, 3, 4, 5, 6, 0] rfl) hP hS
set_option maxRecDepth 100000 in
set_option maxHeartbeats 4000000 in
theorem w_L_tick_6 {r0 : Int64} (CX : wk_X p l e R s m args below meth c cells slots Q cL_tick 11 RL wsL_tick D y B Lk A 3 73) (RT : wk_Rl p l e R s m args below meth c cells slots Q cL_tick D y B Lk A r0 MM) : ∀ (n : Nat) (v5 : Int64) (v7 : Int32) (M : wk_T) (H : Heap) (locs : List Loc) (ls : Array Slot), f_L_tick_6 n v5 v7 M = some (r0, MM) → lv_has ls 11 [(0, .ref (B 14 0 0)), (1, .ref (B 15 0 0)), (2, .ref (B 16 0 0)), (3, .ref (B 17 0 0)), (4, .ref (B 18 0 0)), (5, .long v5), (7, .int v7)] → wk_H D y B Lk M H → va_S A s.heap H locs → W p l e R s m args below meth c H locs cells slots Q (F0 m 6 ls []) := by
  obtain ⟨⟨hx, hb, hml, hown, hts⟩, hK, hI, hL, hA, hfr, hlo, hcs⟩ := id CX
  have q1 := q_L_tick hts
  intro n
  induction n with
  | zero =>
    intro v5 v7 M H locs ls h
    exact absurd h (by rw [f_L_tick_6]; exact fun z => nomatch z)
  | succ n ih =>
    intro v5 v7 M H locs ls h hl hP hS
    rw [f_L_tick_6] at h
    refine lv_iload hx hb dL_tick_6 (lv_at hl 6 rfl) ?_
    refine lv_aload_n hx hb dL_tick_8 rfl (lv_at hl 0 rfl) ?_
    refine lv_iconst (v := 0) hx hb dL_tick_9 (by decide) ?_
    refine wk_iald (j := 0) hx hb hK hP (wk_lL hL 14 (by decide) (by decide)) wk_c14 (by decide) (by decide) dL_tick_10 ?_
    refine lv_icmp_ge (tgt := 269) hx hb dL_tick_11 (by decide) (fun g1 => ?_) (fun g1 => ?_)
    · have h := wk_p g1 h
      refine lv_iconst (v := 0) hx hb dL_tick_269 (by decide) ?_
      refine lv_istore (lv' := [(7, .int 0), (0, .ref (B 14 0 0)), (1, .ref (B 15 0 0)), (2, .ref (B 16 0 0)), (3, .ref (B 17 0 0)), (4, .ref (B 18 0 0)), (5, .long v5)]) hx hb dL_tick_270 hl (by decide) rfl (fun ls hl => ?_)
      exact w_L_tick_272 CX RT wk_fuel _ _ _ _ _ _ h (lv_sub hl [1, 2, 3, 4, 6, 0] rfl) hP hS
    · have h := wk_n g1 h
      refine lv_iload hx hb dL_tick_14 (lv_at hl 6 rfl) ?_
      refine lv_istore (lv' := [(8, .int v7), (0, .ref (B 14 0 0)), (1, .ref (B 15 0 0)), (2, .ref (B 16 0 0)), (3, .ref (B 17 0 0)), (4, .ref (B 18 0 0)), (5, .long v5), (7, .int v7)]) hx hb dL_tick_16 hl (by decide) rfl (fun ls hl => ?_)
      exact w_L_tick_18 CX RT ih wk_fuel _ _ _ _ _ _ _ h (lv_sub hl [1, 2, 3, 4, 5, 6, 7, 0] rfl) hP hS
set_option maxRecDepth 100000 in
set_option maxHeartbeats 4000000 in
theorem w_L_tick_0 {r0 : Int64} (CX : wk_X p l e R s m args below meth c cells slots Q cL_tick 11 RL wsL_tick D y B Lk A 3 73) (RT : wk_Rl p l e R s m args below meth c cells slots Q cL_tick D y B Lk A r0 MM) {M : wk_T} {H : Heap} {locs : List Loc} {ls : Array Slot} (h : f_L_tick M = some (r0, MM)) (hl : lv_has ls 11 [(0, .ref (B 14 0 0)), (1, .ref (B 15 0 0)), (2, .ref (B 16 0 0)), (3, .ref (B 17 0 0)), (4, .ref (B 18 0 0))]) (hP : wk_H D y B Lk M H) (hS : va_S A s.heap H locs) : W p l e R s m args below meth c H locs cells slots Q (F0 m 0 ls []) := by
  obtain ⟨⟨hx, hb, hml, hown, hts⟩, hK, hI, hL, hA, hfr, hlo, hcs⟩ := id CX
  have q1 := q_L_tick hts
  unfold f_L_tick at h
  refine lv_lconst (v := 0) hx hb dL_tick_0 (by decide) ?_
  refine lv_lstore (lv' := [(5, .long 0), (0, .ref (B 14 0 0)), (1, .ref (B 15 0 0)), (2, .ref (B 16 0 0)), (3, .ref (B 17 0 0)), (4, .ref (B 18 0 0))]) hx hb dL_tick_1 hl (by decide) rfl (fun ls hl => ?_)
  refine lv_iconst (v := 0) hx hb dL_tick_3 (by decide) ?_
  refine lv_istore (lv' := [(7, .int 0), (5, .long 0), (0, .ref (B 14 0 0)), (1, .ref (B 15 0 0)), (2, .ref (B 16 0 0)), (3, .ref (B 17 0 0)), (4, .ref (B 18 0 0))]) hx hb dL_tick_4 hl (by decide) rfl (fun ls hl => ?_)
  exact w_L_tick_6 CX RT wk_fuel _ _ _ _ _ _ h (lv_sub hl [2, 3, 4, 5, 6, 1, 0] rfl) hP hS
set_option maxRecDepth 100000 in
set_option maxHeartbeats 4000000 in
theorem m_L_tick (l : Launch) {D : va_G} {y : Nat → ClassId} {B : Nat → Nat → Nat → Nat} {Lk : Nat → Nat → Nat → Prop} (hI : wk_I B Lk) (hL : wk_L Lk) {M : wk_T} {r0 : Int64} {MM : wk_T} (hf : f_L_tick M = some (r0, MM)) : wk_Ml l yL_tick wsL_tick 3 73 D y B Lk [.ref (B 14 0 0), .ref (B 15 0 0), .ref (B 16 0 0), .ref (B 17 0 0), .ref (B 18 0 0)] M r0 MM :=
  wk_ofL (own := RL) (bytes := cL_tick) (maxL := 11) (by decide +kernel) rfl rfl (Nat.le_of_ble_eq_true rfl) hI hL (fun p e s m args below meth c ls CX RT hl hP hS => w_L_tick_0 CX RT hf hl hP hS)
end WP17
