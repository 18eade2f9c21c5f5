/-! walks by program: L_isSo -/
section WP21
variable {p : Program} {l : Launch} {e : Env} {R : Room} {s : State} {m : MethodId} {args : Array Value} {below : List Frame} {meth : Method} {c : Code} {cells slots : Nat} {Q : State → Prop}
variable {D : va_G} {y : Nat → ClassId} {B : Nat → Nat → Nat → Nat} {Lk : Nat → Nat → Nat → Prop} {A : Nat → Prop} {MM : wk_T}
def f_L_isSo_160 (k20 : Int32 → Int32 → Int32 → Int32 → Int32 → wk_T → Option (Int32 × wk_T)) (v7 : Int32) (v8 : Int32) (v9 : Int32) (v11 : Int32) (s0 : Int32) (M : wk_T) : Option (Int32 × wk_T) := wk_lt (v11 + 1) (fun x1 => (k20 v7 v8 v9 s0 x1 M))
def f_L_isSo_155 (k20 : Int32 → Int32 → Int32 → Int32 → Int32 → wk_T → Option (Int32 × wk_T)) (v7 : Int32) (v8 : Int32) (v9 : Int32) (v11 : Int32) (M : wk_T) : Option (Int32 × wk_T) := (f_L_isSo_160 k20 v7 v8 v9 v11 1 M)
def f_L_isSo_159 (k20 : Int32 → Int32 → Int32 → Int32 → Int32 → wk_T → Option (Int32 × wk_T)) (v7 : Int32) (v8 : Int32) (v9 : Int32) (v11 : Int32) (M : wk_T) : Option (Int32 × wk_T) := (f_L_isSo_160 k20 v7 v8 v9 v11 0 M)
def f_L_isSo_288 (k171 : Int32 → Int32 → Int32 → Int32 → Int32 → wk_T → Option (Int32 × wk_T)) (v7 : Int32) (v8 : Int32) (v9 : Int32) (v11 : Int32) (s0 : Int32) (M : wk_T) : Option (Int32 × wk_T) := wk_lt (v11 + 1) (fun x1 => (k171 v7 v8 v9 s0 x1 M))
def f_L_isSo_287 (k171 : Int32 → Int32 → Int32 → Int32 → Int32 → wk_T → Option (Int32 × wk_T)) (v7 : Int32) (v8 : Int32) (v9 : Int32) (v11 : Int32) (M : wk_T) : Option (Int32 × wk_T) := (f_L_isSo_288 k171 v7 v8 v9 v11 0 M)
def f_L_isSo_269 (k171 : Int32 → Int32 → Int32 → Int32 → Int32 → wk_T → Option (Int32 × wk_T)) (v7 : Int32) (v8 : Int32) (v9 : Int32) (v11 : Int32) (s0 : Int32) (s1 : Int32) (M : wk_T) : Option (Int32 × wk_T) := (if s0 = s1 then wk_cl (f_X3_useOf v11 4 M) (fun r2 M3 => (if r2 = (-1) then (f_L_isSo_288 k171 v7 v8 v9 v11 1 M3) else (f_L_isSo_287 k171 v7 v8 v9 v11 M3))) else (f_L_isSo_287 k171 v7 v8 v9 v11 M))
def f_L_isSo_386 (k299 : Int32 → Int32 → Int32 → Int32 → Int32 → wk_T → Option (Int32 × wk_T)) (k316 : Int32 → Int32 → Int32 → Int32 → Int32 → Int32 → Int32 → wk_T → Option (Int32 × wk_T)) (v7 : Int32) (v8 : Int32) (v9 : Int32) (v10 : Int32) (v11 : Int32) (v13 : Int32) (s0 : Int32) (s1 : Int32) (M : wk_T) : Option (Int32 × wk_T) := wk_lt ((s0 + s1)) (fun x1 => wk_lt (v13 + 1) (fun x2 => (k316 v7 v8 v9 v10 v11 x1 x2 M)))
def f_L_isSo_362 (k299 : Int32 → Int32 → Int32 → Int32 → Int32 → wk_T → Option (Int32 × wk_T)) (k316 : Int32 → Int32 → Int32 → Int32 → Int32 → Int32 → Int32 → wk_T → Option (Int32 × wk_T)) (v7 : Int32) (v8 : Int32) (v9 : Int32) (v11 : Int32) (v12 : Int32) (v13 : Int32) (s0 : Int32) (M : wk_T) : Option (Int32 × wk_T) := wk_gd (¬ (((8 * v13) + 7) < 0 ∨ 64 ≤ ((8 * v13) + 7).toNatClampNeg)) ((if (M 15 0 0 (((8 * v13) + 7).toNatClampNeg)) = v11 then (f_L_isSo_386 k299 k316 v7 v8 v9 s0 v11 v13 v12 1 M) else (f_L_isSo_386 k299 k316 v7 v8 v9 s0 v11 v13 v12 0 M)))
def f_L_isSo_357 (k299 : Int32 → Int32 → Int32 → Int32 → Int32 → wk_T → Option (Int32 × wk_T)) (k316 : Int32 → Int32 → Int32 → Int32 → Int32 → Int32 → Int32 → wk_T → Option (Int32 × wk_T)) (v7 : Int32) (v8 : Int32) (v9 : Int32) (v11 : Int32) (v12 : Int32) (v13 : Int32) (M : wk_T) : Option (Int32 × wk_T) := (f_L_isSo_362 k299 k316 v7 v8 v9 v11 v12 v13 1 M)
def f_L_isSo_429 (k299 : Int32 → Int32 → Int32 → Int32 → Int32 → wk_T → Option (Int32 × wk_T)) (v7 : Int32) (v8 : Int32) (v9 : Int32) (v11 : Int32) (s0 : Int32) (M : wk_T) : Option (Int32 × wk_T) := wk_lt (v11 + 1) (fun x1 => (k299 v7 v8 v9 s0 x1 M))
def f_L_isSo_428 (k299 : Int32 → Int32 → Int32 → Int32 → Int32 → wk_T → Option (Int32 × wk_T)) (v7 : Int32) (v8 : Int32) (v9 : Int32) (v11 : Int32) (M : wk_T) : Option (Int32 × wk_T) := (f_L_isSo_429 k299 v7 v8 v9 v11 0 M)
def f_L_isSo_395 (k299 : Int32 → Int32 → Int32 → Int32 → Int32 → wk_T → Option (Int32 × wk_T)) (v7 : Int32) (v8 : Int32) (v9 : Int32) (v10 : Int32) (v11 : Int32) (v12 : Int32) (M : wk_T) : Option (Int32 × wk_T) := (if v10 = 0 then (f_L_isSo_428 k299 v7 v8 v9 v11 M) else wk_cl (f_X3_pluggedAt v11 v12 M) (fun r2 M3 => (if r2 = (-4) then wk_cl (f_X3_pluggedAt v11 (-1) M3) (fun r5 M6 => (if r5 = (-1) then (f_L_isSo_429 k299 v7 v8 v9 v11 1 M6) else (f_L_isSo_428 k299 v7 v8 v9 v11 M6))) else (f_L_isSo_428 k299 v7 v8 v9 v11 M3))))
def f_L_isSo_316 (k299 : Int32 → Int32 → Int32 → Int32 → Int32 → wk_T → Option (Int32 × wk_T)) : Nat → Int32 → Int32 → Int32 → Int32 → Int32 → Int32 → Int32 → wk_T → Option (Int32 × wk_T)
  | 0, _, _, _, _, _, _, _, _ => none
  | n + 1, v7, v8, v9, v10, v11, v12, v13, M => (if (M 14 0 0 0) ≤ v13 then (f_L_isSo_395 k299 v7 v8 v9 v10 v11 v12 M) else (if v10 = 0 then (f_L_isSo_395 k299 v7 v8 v9 v10 v11 v12 M) else wk_gd (¬ (((8 * v13) + 7) < 0 ∨ 64 ≤ ((8 * v13) + 7).toNatClampNeg)) ((if (M 15 0 0 (((8 * v13) + 7).toNatClampNeg)) = v11 then wk_cl (f_X3_pluggedAt v11 v12 M) (fun r5 M6 => (if r5 = v13 then (f_L_isSo_357 k299 (f_L_isSo_316 k299 n) v7 v8 v9 v11 v12 v13 M6) else (f_L_isSo_362 k299 (f_L_isSo_316 k299 n) v7 v8 v9 v11 v12 v13 0 M6))) else (f_L_isSo_357 k299 (f_L_isSo_316 k299 n) v7 v8 v9 v11 v12 v13 M)))))
def f_L_isSo_541 (v7 : Int32) (v8 : Int32) (v9 : Int32) (s0 : Int32) (M : wk_T) : Option (Int32 × wk_T) := (if s0 = 0 then (some (0, M)) else wk_cl (f_X3_count 7 M) (fun r2 M3 => (if r2 = v7 then wk_cl (f_X3_count 8 M3) (fun r5 M6 => (if r5 = v8 then wk_cl (f_X3_count 9 M6) (fun r8 M9 => (if r8 = v9 then wk_cl (f_X3_count 11 M9) (fun r11 M12 => (if r11 = 0 then wk_cl (f_X3_count 20 M12) (fun r14 M15 => (if r14 = (M15 14 0 0 3) then wk_cl (f_X3_count 21 M15) (fun r17 M18 => (if r17 = (M18 14 0 0 4) then (some (1, M18)) else (some (0, M18)))) else (some (0, M15)))) else (some (0, M12)))) else (some (0, M9)))) else (some (0, M6)))) else (some (0, M3)))))
def f_L_isSo_540 (v7 : Int32) (v8 : Int32) (v9 : Int32) (M : wk_T) : Option (Int32 × wk_T) := (f_L_isSo_541 v7 v8 v9 0 M)
def f_L_isSo_437 (v7 : Int32) (v8 : Int32) (v9 : Int32) (v10 : Int32) (M : wk_T) : Option (Int32 × wk_T) := (if v10 = 0 then (f_L_isSo_540 v7 v8 v9 M) else wk_cl (f_X3_useOf (M 14 0 0 1) 0 M) (fun r2 M3 => (if r2 = (-1) then wk_cl (f_X3_count 0 M3) (fun r5 M6 => (if r5 = (M6 14 0 0 0) then wk_cl (f_X3_count 1 M6) (fun r8 M9 => (if r8 = (M9 14 0 0 1) then wk_cl (f_X3_count 2 M9) (fun r11 M12 => (if r11 = (M12 14 0 0 2) then wk_cl (f_X3_count 3 M12) (fun r14 M15 => (if r14 = (M15 19 0 0 0) then wk_cl (f_X3_count 4 M15) (fun r17 M18 => (if r17 = (M18 19 0 0 1) then wk_cl (f_X3_count 5 M18) (fun r20 M21 => (if r20 = (M21 19 0 0 2) then wk_cl (f_X3_count 6 M21) (fun r23 M24 => (if r23 = (M24 19 0 0 3) then (f_L_isSo_541 v7 v8 v9 1 M24) else (f_L_isSo_540 v7 v8 v9 M24))) else (f_L_isSo_540 v7 v8 v9 M21))) else (f_L_isSo_540 v7 v8 v9 M18))) else (f_L_isSo_540 v7 v8 v9 M15))) else (f_L_isSo_540 v7 v8 v9 M12))) else (f_L_isSo_540 v7 v8 v9 M9))) else (f_L_isSo_540 v7 v8 v9 M6))) else (f_L_isSo_540 v7 v8 v9 M3))))
def f_L_isSo_299 : Nat → Int32 → Int32 → Int32 → Int32 → Int32 → wk_T → Option (Int32 × wk_T)
  | 0, _, _, _, _, _, _ => none
  | n + 1, v7, v8, v9, v10, v11, M => (if 2 ≤ v11 then (f_L_isSo_437 v7 v8 v9 v10 M) else (if v10 = 0 then (f_L_isSo_437 v7 v8 v9 v10 M) else (f_L_isSo_316 (f_L_isSo_299 n) wk_fuel v7 v8 v9 v10 v11 0 0 M)))
def f_L_isSo_296 (v7 : Int32) (v8 : Int32) (v9 : Int32) (v10 : Int32) (M : wk_T) : Option (Int32 × wk_T) := (f_L_isSo_299 wk_fuel v7 v8 v9 v10 0 M)
def f_L_isSo_171 : Nat → Int32 → Int32 → Int32 → Int32 → Int32 → wk_T → Option (Int32 × wk_T)
  | 0, _, _, _, _, _, _ => none
  | n + 1, v7, v8, v9, v10, v11, M => (if (M 14 0 0 1) ≤ v11 then (f_L_isSo_296 v7 v8 v9 v10 M) else (if v10 = 0 then (f_L_isSo_296 v7 v8 v9 v10 M) else wk_cl (f_X3_useOf v11 0 M) (fun r3 M4 => wk_gd (¬ ((3 * v11) < 0 ∨ 36 ≤ (3 * v11).toNatClampNeg)) ((if r3 = (M4 18 0 0 ((3 * v11).toNatClampNeg)) then wk_cl (f_X3_useOf v11 1 M4) (fun r7 M8 => wk_gd (¬ (((3 * v11) + 1) < 0 ∨ 36 ≤ ((3 * v11) + 1).toNatClampNeg)) ((if r7 = (M8 18 0 0 (((3 * v11) + 1).toNatClampNeg)) then wk_cl (f_X3_useOf v11 2 M8) (fun r11 M12 => wk_gd (¬ (((3 * v11) + 2) < 0 ∨ 36 ≤ ((3 * v11) + 2).toNatClampNeg)) ((if r11 = (M12 18 0 0 (((3 * v11) + 2).toNatClampNeg)) then wk_cl (f_X3_useOf v11 3 M12) (fun r15 M16 => wk_gd (¬ ((3 * v11) < 0 ∨ 36 ≤ (3 * v11).toNatClampNeg)) (wk_cl (f_L_first (M16 18 0 0 ((3 * v11).toNatClampNeg)) M16) (fun r18 M19 => (if r18 = v11 then (f_L_isSo_269 (f_L_isSo_171 n) v7 v8 v9 v11 r15 1 M19) else (f_L_isSo_269 (f_L_isSo_171 n) v7 v8 v9 v11 r15 0 M19))))) else (f_L_isSo_287 (f_L_isSo_171 n) v7 v8 v9 v11 M12)))) else (f_L_isSo_287 (f_L_isSo_171 n) v7 v8 v9 v11 M8)))) else (f_L_isSo_287 (f_L_isSo_171 n) v7 v8 v9 v11 M4))))))
def f_L_isSo_168 (v7 : Int32) (v8 : Int32) (v9 : Int32) (v10 : Int32) (M : wk_T) : Option (Int32 × wk_T) := (f_L_isSo_171 wk_fuel v7 v8 v9 v10 0 M)
def f_L_isSo_20 : Nat → Int32 → Int32 → Int32 → Int32 → Int32 → wk_T → Option (Int32 × wk_T)
  | 0, _, _, _, _, _, _ => none
  | n + 1, v7, v8, v9, v10, v11, M => (if (M 14 0 0 0) ≤ v11 then (f_L_isSo_168 v7 v8 v9 v10 M) else (if v10 = 0 then (f_L_isSo_168 v7 v8 v9 v10 M) else wk_gd (¬ ((8 * v11) < 0 ∨ 64 ≤ (8 * v11).toNatClampNeg)) (wk_gd (¬ ((M 16 0 0 ((8 * v11).toNatClampNeg)) < 0 ∨ 4 ≤ (M 16 0 0 ((8 * v11).toNatClampNeg)).toNatClampNeg)) (wk_gd (¬ ((M 16 0 0 ((8 * v11).toNatClampNeg)) < 0 ∨ 4 ≤ (M 16 0 0 ((8 * v11).toNatClampNeg)).toNatClampNeg)) (wk_mu (wk_up M 19 0 0 ((M 16 0 0 ((8 * v11).toNatClampNeg)).toNatClampNeg) ((M 19 0 0 ((M 16 0 0 ((8 * v11).toNatClampNeg)).toNatClampNeg)) + 1)) (fun M6 => wk_gd (¬ ((4 * v11) < 0 ∨ 48 ≤ (4 * v11).toNatClampNeg)) (wk_gd (¬ (((4 * v11) + 1) < 0 ∨ 48 ≤ ((4 * v11) + 1).toNatClampNeg)) (wk_gd (¬ (((4 * v11) + 2) < 0 ∨ 48 ≤ ((4 * v11) + 2).toNatClampNeg)) (wk_gd (¬ (((4 * v11) + 3) < 0 ∨ 48 ≤ ((4 * v11) + 3).toNatClampNeg)) (wk_lt ((v7 + ((((M6 17 0 0 ((4 * v11).toNatClampNeg)) + (M6 17 0 0 (((4 * v11) + 1).toNatClampNeg))) + (M6 17 0 0 (((4 * v11) + 2).toNatClampNeg))) + (M6 17 0 0 (((4 * v11) + 3).toNatClampNeg))))) (fun x11 => wk_gd (¬ (((8 * v11) + 5) < 0 ∨ 64 ≤ ((8 * v11) + 5).toNatClampNeg)) (wk_lt ((v8 + (M6 16 0 0 (((8 * v11) + 5).toNatClampNeg)))) (fun x13 => wk_gd (¬ (((8 * v11) + 6) < 0 ∨ 64 ≤ ((8 * v11) + 6).toNatClampNeg)) (wk_lt ((v9 + (M6 16 0 0 (((8 * v11) + 6).toNatClampNeg)))) (fun x15 => wk_cl (f_L_isRoom v11 M6) (fun r16 M17 => (if r16 = 0 then (f_L_isSo_159 (f_L_isSo_20 n) x11 x13 x15 v11 M17) else wk_cl (f_X3_roomOf v11 1 M17) (fun r19 M20 => (if r19 = 0 then (f_L_isSo_155 (f_L_isSo_20 n) x11 x13 x15 v11 M20) else wk_cl (f_X3_roomOf v11 11 M20) (fun r22 M23 => (if r22 ≤ 0 then (f_L_isSo_159 (f_L_isSo_20 n) x11 x13 x15 v11 M23) else (f_L_isSo_155 (f_L_isSo_20 n) x11 x13 x15 v11 M23))))))))))))))))))))))
def f_L_isSo (M : wk_T) : Option (Int32 × wk_T) := (f_L_isSo_20 wk_fuel 0 0 0 1 0 M)
set_option maxRecDepth 100000 in
set_option maxHeartbeats 4000000 in
theorem w_L_isSo_160 {r0 : Int32} (CX : wk_X p l e R s m args below meth c cells slots Q cL_isSo 14 RL wsL_isSo D y B Lk A 4 102) (RT : wk_Rz p l e R s m args below meth c cells slots Q cL_isSo D y B Lk A r0 MM) (h19 : Lk 19 0 0) {k20 : Int32 → Int32 → Int32 → Int32 → Int32 → wk_T → Option (Int32 × wk_T)} (hk20 : ∀ (v7 : Int32) (v8 : Int32) (v9 : Int32) (v10 : Int32) (v11 : Int32) (M : wk_T) (H : Heap) (locs : List Loc) (ls : Array Slot), k20 v7 v8 v9 v10 v11 M = some (r0, MM) → lv_has ls 14 [(0, .ref (B 9 0 0)), (1, .ref (B 14 0 0)), (2, .ref (B 15 0 0)), (3, .ref (B 16 0 0)), (4, .ref (B 17 0 0)), (5, .ref (B 18 0 0)), (6, .ref (B 19 0 0)), (7, .int v7), (8, .int v8), (9, .int v9), (10, .int v10), (11, .int v11)] → wk_H D y B Lk M H → va_S A s.heap H locs → W p l e R s m args below meth c H locs cells slots Q (F0 m 20 ls [])) {v7 : Int32} {v8 : Int32} {v9 : Int32} {v11 : Int32} {s0 : Int32} {M : wk_T} {H : Heap} {locs : List Loc} {ls : Array Slot} (h : f_L_isSo_160 k20 v7 v8 v9 v11 s0 M = some (r0, MM)) (hl : lv_has ls 14 [(0, .ref (B 9 0 0)), (1, .ref (B 14 0 0)), (2, .ref (B 15 0 0)), (3, .ref (B 16 0 0)), (4, .ref (B 17 0 0)), (5, .ref (B 18 0 0)), (6, .ref (B 19 0 0)), (7, .int v7), (8, .int v8), (9, .int v9), (11, .int v11)]) (hP : wk_H D y B Lk M H) (hS : va_S A s.heap H locs) : W p l e R s m args below meth c H locs cells slots Q (F0 m 160 ls [.int s0]) := by
  obtain ⟨⟨hx, hb, hml, hown, hts⟩, hK, hI, hL, hA, hfr, hlo, hcs⟩ := id CX
  unfold f_L_isSo_160 at h
  refine lv_istore (lv' := [(10, .int s0), (0, .ref (B 9 0 0)), (1, .ref (B 14 0 0)), (2, .ref (B 15 0 0)), (3, .ref (B 16 0 0)), (4, .ref (B 17 0 0)), (5, .ref (B 18 0 0)), (6, .ref (B 19 0 0)), (7, .int v7), (8, .int v8), (9, .int v9), (11, .int v11)]) hx hb dL_isSo_160 hl (by decide) rfl (fun ls hl => ?_)
  obtain ⟨x1, ex1, h⟩ := wk_lt_e h
  refine lv_iinc (v := x1) (lv' := [(11, .int x1), (10, .int s0), (0, .ref (B 9 0 0)), (1, .ref (B 14 0 0)), (2, .ref (B 15 0 0)), (3, .ref (B 16 0 0)), (4, .ref (B 17 0 0)), (5, .ref (B 18 0 0)), (6, .ref (B 19 0 0)), (7, .int v7), (8, .int v8), (9, .int v9)]) hx hb dL_isSo_162 hl (k := 11) rfl (by rw [← ex1]; rfl) (by decide) rfl (fun ls hl => ?_)
  refine lv_goto (tgt := 20) hx hb dL_isSo_165 (by decide) ?_
  exact hk20 _ _ _ _ _ _ _ _ _ h (lv_sub hl [2, 3, 4, 5, 6, 7, 8, 9, 10, 11, 1, 0] rfl) hP hS
set_option maxRecDepth 100000 in
set_option maxHeartbeats 4000000 in
theorem w_L_isSo_155 {r0 : Int32} (CX : wk_X p l e R s m args below meth c cells slots Q cL_isSo 14 RL wsL_isSo D y B Lk A 4 102) (RT : wk_Rz p l e R s m args below meth c cells slots Q cL_isSo D y B Lk A r0 MM) (h19 : Lk 19 0 0) {k20 : Int32 → Int32 → Int32 → Int32 → Int32 → wk_T → Option (Int32 × wk_T)} (hk20 : ∀ (v7 : Int32) (v8 : Int32) (v9 : Int32) (v10 : Int32) (v11 : Int32) (M : wk_T) (H : Heap) (locs : List Loc) (ls : Array Slot), k20 v7 v8 v9 v10 v11 M = some (r0, MM) → lv_has ls 14 [(0, .ref (B 9 0 0)), (1, .ref (B 14 0 0)), (2, .ref (B 15 0 0)), (3, .ref (B 16 0 0)), (4, .ref (B 17 0 0)), (5, .ref (B 18 0 0)), (6, .ref (B 19 0 0)), (7, .int v7), (8, .int v8), (9, .int v9), (10, .int v10), (11, .int v11)] → wk_H D y B Lk M H → va_S A s.heap H locs → W p l e R s m args below meth c H locs cells slots Q (F0 m 20 ls [])) {v7 : Int32} {v8 : Int32} {v9 : Int32} {v11 : Int32} {M : wk_T} {H : Heap} {locs : List Loc} {ls : Array Slot} (h : f_L_isSo_155 k20 v7 v8 v9 v11 M = some (r0, MM)) (hl : lv_has ls 14 [(0, .ref (B 9 0 0)), (1, .ref (B 14 0 0)), (2, .ref (B 15 0 0)), (3, .ref (B 16 0 0)), (4, .ref (B 17 0 0)), (5, .ref (B 18 0 0)), (6, .ref (B 19 0 0)), (7, .int v7), (8, .int v8), (9, .int v9), (11, .int v11)]) (hP : wk_H D y B Lk M H) (hS : va_S A s.heap H locs) : W p l e R s m args below meth c H locs cells slots Q (F0 m 155 ls []) := by
  obtain ⟨⟨hx, hb, hml, hown, hts⟩, hK, hI, hL, hA, hfr, hlo, hcs⟩ := id CX
  unfold f_L_isSo_155 at h
  refine lv_iconst (v := 1) hx hb dL_isSo_155 (by decide) ?_
  refine lv_goto (tgt := 160) hx hb dL_isSo_156 (by decide) ?_
  exact w_L_isSo_160 CX RT h19 hk20 h (lv_sub hl [0, 1, 2, 3, 4, 5, 6, 7, 8, 9, 10] rfl) hP hS
set_option maxRecDepth 100000 in
set_option maxHeartbeats 4000000 in
theorem w_L_isSo_159 {r0 : Int32} (CX : wk_X p l e R s m args below meth c cells slots Q cL_isSo 14 RL wsL_isSo D y B Lk A 4 102) (RT : wk_Rz p l e R s m args below meth c cells slots Q cL_isSo D y B Lk A r0 MM) (h19 : Lk 19 0 0) {k20 : Int32 → Int32 → Int32 → Int32 → Int32 → wk_T → Option (Int32 × wk_T)} (hk20 : ∀ (v7 : Int32) (v8 : Int32) (v9 : Int32) (v10 : Int32) (v11 : Int32) (M : wk_T) (H : Heap) (locs : List Loc) (ls : Array Slot), k20 v7 v8 v9 v10 v11 M = some (r0, MM) → lv_has ls 14 [(0, .ref (B 9 0 0)), (1, .ref (B 14 0 0)), (2, .ref (B 15 0 0)), (3, .ref (B 16 0 0)), (4, .ref (B 17 0 0)), (5, .ref (B 18 0 0)), (6, .ref (B 19 0 0)), (7, .int v7), (8, .int v8), (9, .int v9), (10, .int v10), (11, .int v11)] → wk_H D y B Lk M H → va_S A s.heap H locs → W p l e R s m args below meth c H locs cells slots Q (F0 m 20 ls [])) {v7 : Int32} {v8 : Int32} {v9 : Int32} {v11 : Int32} {M : wk_T} {H : Heap} {locs : List Loc} {ls : Array Slot} (h : f_L_isSo_159 k20 v7 v8 v9 v11 M = some (r0, MM)) (hl : lv_has ls 14 [(0, .ref (B 9 0 0)), (1, .ref (B 14 0 0)), (2, .ref (B 15 0 0)), (3, .ref (B 16 0 0)), (4, .ref (B 17 0 0)), (5, .ref (B 18 0 0)), (6, .ref (B 19 0 0)), (7, .int v7), (8, .int v8), (9, .int v9), (11, .int v11)]) (hP : wk_H D y B Lk M H) (hS : va_S A s.heap H locs) : W p l e R s m args below meth c H locs cells slots Q (F0 m 159 ls []) := by
  obtain ⟨⟨hx, hb, hml, hown, hts⟩, hK, hI, hL, hA, hfr, hlo, hcs⟩ := id CX
  unfold f_L_isSo_159 at h
  refine lv_iconst (v := 0) hx hb dL_isSo_159 (by decide) ?_
  exact w_L_isSo_160 CX RT h19 hk20 h (lv_sub hl [0, 1, 2, 3, 4, 5, 6, 7, 8, 9, 10] rfl) hP hS
set_option maxRecDepth 100000 in
set_option maxHeartbeats 4000000 in
theorem w_L_isSo_288 {r0 : Int32} (CX : wk_X p l e R s m args below meth c cells slots Q cL_isSo 14 RL wsL_isSo D y B Lk A 4 102) (RT : wk_Rz p l e R s m args below meth c cells slots Q cL_isSo D y B Lk A r0 MM) (h19 : Lk 19 0 0) {k171 : Int32 → Int32 → Int32 → Int32 → Int32 → wk_T → Option (Int32 × wk_T)} (hk171 : ∀ (v7 : Int32) (v8 : Int32) (v9 : Int32) (v10 : Int32) (v11 : Int32) (M : wk_T) (H : Heap) (locs : List Loc) (ls : Array Slot), k171 v7 v8 v9 v10 v11 M = some (r0, MM) → lv_has ls 14 [(0, .ref (B 9 0 0)), (1, .ref (B 14 0 0)), (2, .ref (B 15 0 0)), (5, .ref (B 18 0 0)), (6, .ref (B 19 0 0)), (7, .int v7), (8, .int v8), (9, .int v9), (10, .int v10), (11, .int v11)] → wk_H D y B Lk M H → va_S A s.heap H locs → W p l e R s m args below meth c H locs cells slots Q (F0 m 171 ls [])) {v7 : Int32} {v8 : Int32} {v9 : Int32} {v11 : Int32} {s0 : Int32} {M : wk_T} {H : Heap} {locs : List Loc} {ls : Array Slot} (h : f_L_isSo_288 k171 v7 v8 v9 v11 s0 M = some (r0, MM)) (hl : lv_has ls 14 [(0, .ref (B 9 0 0)), (1, .ref (B 14 0 0)), (2, .ref (B 15 0 0)), (5, .ref (B 18 0 0)), (6, .ref (B 19 0 0)), (7, .int v7), (8, .int v8), (9, .int v9), (11, .int v11)]) (hP : wk_H D y B Lk M H) (hS : va_S A s.heap H locs) : W p l e R s m args below meth c H locs cells slots Q (F0 m 288 ls [.int s0]) := by
  obtain ⟨⟨hx, hb, hml, hown, hts⟩, hK, hI, hL, hA, hfr, hlo, hcs⟩ := id CX
  unfold f_L_isSo_288 at h
  refine lv_istore (lv' := [(10, .int s0), (0, .ref (B 9 0 0)), (1, .ref (B 14 0 0)), (2, .ref (B 15 0 0)), (5, .ref (B 18 0 0)), (6, .ref (B 19 0 0)), (7, .int v7), (8, .int v8), (9, .int v9), (11, .int v11)]) hx hb dL_isSo_288 hl (by decide) rfl (fun ls hl => ?_)
  obtain ⟨x1, ex1, h⟩ := wk_lt_e h
  refine lv_iinc (v := x1) (lv' := [(11, .int x1), (10, .int s0), (0, .ref (B 9 0 0)), (1, .ref (B 14 0 0)), (2, .ref (B 15 0 0)), (5, .ref (B 18 0 0)), (6, .ref (B 19 0 0)), (7, .int v7), (8, .int v8), (9, .int v9)]) hx hb dL_isSo_290 hl (k := 9) rfl (by rw [← ex1]; rfl) (by decide) rfl (fun ls hl => ?_)
  refine lv_goto (tgt := 171) hx hb dL_isSo_293 (by decide) ?_
  exact hk171 _ _ _ _ _ _ _ _ _ h (lv_sub hl [2, 3, 4, 5, 6, 7, 8, 9, 1, 0] rfl) hP hS
set_option maxRecDepth 100000 in
set_option maxHeartbeats 4000000 in
theorem w_L_isSo_287 {r0 : Int32} (CX : wk_X p l e R s m args below meth c cells slots Q cL_isSo 14 RL wsL_isSo D y B Lk A 4 102) (RT : wk_Rz p l e R s m args below meth c cells slots Q cL_isSo D y B Lk A r0 MM) (h19 : Lk 19 0 0) {k171 : Int32 → Int32 → Int32 → Int32 → Int32 → wk_T → Option (Int32 × wk_T)} (hk171 : ∀ (v7 : Int32) (v8 : Int32) (v9 : Int32) (v10 : Int32) (v11 : Int32) (M : wk_T) (H : Heap) (locs : List Loc) (ls : Array Slot), k171 v7 v8 v9 v10 v11 M = some (r0, MM) → lv_has ls 14 [(0, .ref (B 9 0 0)), (1, .ref (B 14 0 0)), (2, .ref (B 15 0 0)), (5, .ref (B 18 0 0)), (6, .ref (B 19 0 0)), (7, .int v7), (8, .int v8), (9, .int v9), (10, .int v10), (11, .int v11)] → wk_H D y B Lk M H → va_S A s.heap H locs → W p l e R s m args below meth c H locs cells slots Q (F0 m 171 ls [])) {v7 : Int32} {v8 : Int32} {v9 : Int32} {v11 : Int32} {M : wk_T} {H : Heap} {locs : List Loc} {ls : Array Slot} (h : f_L_isSo_287 k171 v7 v8 v9 v11 M = some (r0, MM)) (hl : lv_has ls 14 [(0, .ref (B 9 0 0)), (1, .ref (B 14 0 0)), (2, .ref (B 15 0 0)), (5, .ref (B 18 0 0)), (6, .ref (B 19 0 0)), (7, .int v7), (8, .int v8), (9, .int v9), (11, .int v11)]) (hP : wk_H D y B Lk M H) (hS : va_S A s.heap H locs) : W p l e R s m args below meth c H locs cells slots Q (F0 m 287 ls []) := by
  obtain ⟨⟨hx, hb, hml, hown, hts⟩, hK, hI, hL, hA, hfr, hlo, hcs⟩ := id CX
  unfold f_L_isSo_287 at h
  refine lv_iconst (v := 0) hx hb dL_isSo_287 (by decide) ?_
  exact w_L_isSo_288 CX RT h19 hk171 h (lv_sub hl [0, 1, 2, 3, 4, 5, 6, 7, 8] rfl) hP hS
set_option maxRecDepth 100000 in
set_option maxHeartbeats 4000000 in
theorem w_L_isSo_269 {r0 : Int32} (CX : wk_X p l e R s m args below meth c cells slots Q cL_isSo 14 RL wsL_isSo D y B Lk A 4 102) (RT : wk_Rz p l e R s m args below meth c cells slots Q cL_isSo D y B Lk A r0 MM) (h19 : Lk 19 0 0) {k171 : Int32 → Int32 → Int32 → Int32 → Int32 → wk_T → Option (Int32 × wk_T)} (hk171 : ∀ (v7 : Int32) (v8 : Int32) (v9 : Int32) (v10 : Int32) (v11 : Int32) (M : wk_T) (H : Heap) (locs : List Loc) (ls : Array Slot), k171 v7 v8 v9 v10 v11 M = some (r0, MM) → lv_has ls 14 [(0, .ref (B 9 0 0)), (1, .ref (B 14 0 0)), (2, .ref (B 15 0 0)), (5, .ref (B 18 0 0)), (6, .ref (B 19 0 0)), (7, .int v7), (8, .int v8), (9, .int v9), (10, .int v10), (11, .int v11)] → wk_H D y B Lk M H → va_S A s.heap H locs → W p l e R s m args below meth c H locs cells slots Q (F0 m 171 ls [])) {v7 : Int32} {v8 : Int32} {v9 : Int32} {v11 : Int32} {s0 : Int32} {s1 : Int32} {M : wk_T} {H : Heap} {locs : List Loc} {ls : Array Slot} (h : f_L_isSo_269 k171 v7 v8 v9 v11 s0 s1 M = some (r0, MM)) (hl : lv_has ls 14 [(0, .ref (B 9 0 0)), (1, .ref (B 14 0 0)), (2, .ref (B 15 0 0)), (5, .ref (B 18 0 0)), (6, .ref (B 19 0 0)), (7, .int v7), (8, .int v8), (9, .int v9), (11, .int v11)]) (hP : wk_H D y B Lk M H) (hS : va_S A s.heap H locs) : W p l e R s m args below meth c H locs cells slots Q (F0 m 269 ls [.int s1, .int s0]) := by
  obtain ⟨⟨hx, hb, hml, hown, hts⟩, hK, hI, hL, hA, hfr, hlo, hcs⟩ := id CX
  unfold f_L_isSo_269 at h
  refine lv_icmp_ne (tgt := 287) hx hb dL_isSo_269 (by decide) (fun g1 => ?_) (fun g1 => ?_)
  · have h := wk_n g1 h
    exact w_L_isSo_287 CX RT h19 hk171 h (lv_sub hl [0, 1, 2, 3, 4, 5, 6, 7, 8] rfl) hP hS
  · have h := wk_p g1 h
    refine lv_aload_n hx hb dL_isSo_272 rfl (lv_at hl 0 rfl) ?_
    refine lv_iload hx hb dL_isSo_273 (lv_at hl 8 rfl) ?_
    refine lv_iconst (v := 4) hx hb dL_isSo_275 (by decide) ?_
    obtain ⟨r2, M3, er2, h⟩ := wk_cl_e h
    refine wk_cVi (As := [.int v11, .int 4]) (rest := []) ⟨hx, hb, hml, hown, hts⟩ (m_X3_useOf l hI hL er2) (cwV 2 hts gL_isSo_X3_useOf rfl rfl rfl (by decide +kernel) ⟨Nat.le_trans (by decide) hfr, Nat.le_trans (by decide) hlo⟩) hK hP hS hA (wk_l9 hL 9 (by decide) (by decide)) wk_c9 rfl rfl hl.1 (lv_room (Nat.le_of_ble_eq_true rfl)) hcs dL_isSo_276 (fun H locs hP hS => ?_)
    refine lv_iconst (v := (-1)) hx hb dL_isSo_279 (by decide) ?_
    refine lv_icmp_ne (tgt := 287) hx hb dL_isSo_280 (by decide) (fun g4 => ?_) (fun g4 => ?_)
    · have h := wk_n g4 h
      exact w_L_isSo_287 CX RT h19 hk171 h (lv_sub hl [0, 1, 2, 3, 4, 5, 6, 7, 8] rfl) hP hS
    · have h := wk_p g4 h
      refine lv_iconst (v := 1) hx hb dL_isSo_283 (by decide) ?_
      refine lv_goto (tgt := 288) hx hb dL_isSo_284 (by decide) ?_
      exact w_L_isSo_288 CX RT h19 hk171 h (lv_sub hl [0, 1, 2, 3, 4, 5, 6, 7, 8] rfl) hP hS
set_option maxRecDepth 100000 in
set_option maxHeartbeats 4000000 in
theorem w_L_isSo_386 {r0 : Int32} (CX : wk_X p l e R s m args below meth c cells slots Q cL_isSo 14 RL wsL_isSo D y B Lk A 4 102) (RT : wk_Rz p l e R s m args below meth c cells slots Q cL_isSo D y B Lk A r0 MM) (h19 : Lk 19 0 0) {k299 : Int32 → Int32 → Int32 → Int32 → Int32 → wk_T → Option (Int32 × wk_T)} (hk299 : ∀ (v7 : Int32) (v8 : Int32) (v9 : Int32) (v10 : Int32) (v11 : Int32) (M : wk_T) (H : Heap) (locs : List Loc) (ls : Array Slot), k299 v7 v8 v9 v10 v11 M = some (r0, MM) → lv_has ls 14 [(0, .ref (B 9 0 0)), (1, .ref (B 14 0 0)), (2, .ref (B 15 0 0)), (6, .ref (B 19 0 0)), (7, .int v7), (8, .int v8), (9, .int v9), (10, .int v10), (11, .int v11)] → wk_H D y B Lk M H → va_S A s.heap H locs → W p l e R s m args below meth c H locs cells slots Q (F0 m 299 ls [])) {k316 : Int32 → Int32 → Int32 → Int32 → Int32 → Int32 → Int32 → wk_T → Option (Int32 × wk_T)} (hk316 : ∀ (v7 : Int32) (v8 : Int32) (v9 : Int32) (v10 : Int32) (v11 : Int32) (v12 : Int32) (v13 : Int32) (M : wk_T) (H : Heap) (locs : List Loc) (ls : Array Slot), k316 v7 v8 v9 v10 v11 v12 v13 M = some (r0, MM) → lv_has ls 14 [(0, .ref (B 9 0 0)), (1, .ref (B 14 0 0)), (2, .ref (B 15 0 0)), (6, .ref (B 19 0 0)), (7, .int v7), (8, .int v8), (9, .int v9), (10, .int v10), (11, .int v11), (12, .int v12), (13, .int v13)] → wk_H D y B Lk M H → va_S A s.heap H locs → W p l e R s m args below meth c H locs cells slots Q (F0 m 316 ls [])) {v7 : Int32} {v8 : Int32} {v9 : Int32} {v10 : Int32} {v11 : Int32} {v13 : Int32} {s0 : Int32} {s1 : Int32} {M : wk_T} {H : Heap} {locs : List Loc} {ls : Array Slot} (h : f_L_isSo_386 k299 k316 v7 v8 v9 v10 v11 v13 s0 s1 M = some (r0, MM)) (hl : lv_has ls 14 [(0, .ref (B 9 0 0)), (1, .ref (B 14 0 0)), (2, .ref (B 15 0 0)), (6, .ref (B 19 0 0)), (7, .int v7), (8, .int v8), (9, .int v9), (10, .int v10), (11, .int v11), (13, .int v13)]) (hP : wk_H D y B Lk M H) (hS : va_S A s.heap H locs) : W p l e R s m args below meth c H locs cells slots Q (F0 m 386 ls [.int s1, .int s0]) := by
  obtain ⟨⟨hx, hb, hml, hown, hts⟩, hK, hI, hL, hA, hfr, hlo, hcs⟩ := id CX
  unfold f_L_isSo_386 at h
  refine lv_iadd hx hb dL_isSo_386 ?_
  obtain ⟨x1, ex1, h⟩ := wk_lt_e h
  refine wk_topi ex1 ?_
  refine lv_istore (lv' := [(12, .int x1), (0, .ref (B 9 0 0)), (1, .ref (B 14 0 0)), (2, .ref (B 15 0 0)), (6, .ref (B 19 0 0)), (7, .int v7), (8, .int v8), (9, .int v9), (10, .int v10), (11, .int v11), (13, .int v13)]) hx hb dL_isSo_387 hl (by decide) rfl (fun ls hl => ?_)
  obtain ⟨x2, ex2, h⟩ := wk_lt_e h
  refine lv_iinc (v := x2) (lv' := [(13, .int x2), (12, .int x1), (0, .ref (B 9 0 0)), (1, .ref (B 14 0 0)), (2, .ref (B 15 0 0)), (6, .ref (B 19 0 0)), (7, .int v7), (8, .int v8), (9, .int v9), (10, .int v10), (11, .int v11)]) hx hb dL_isSo_389 hl (k := 10) rfl (by rw [← ex2]; rfl) (by decide) rfl (fun ls hl => ?_)
  refine lv_goto (tgt := 316) hx hb dL_isSo_392 (by decide) ?_
  exact hk316 _ _ _ _ _ _ _ _ _ _ _ h (lv_sub hl [2, 3, 4, 5, 6, 7, 8, 9, 10, 1, 0] rfl) hP hS
set_option maxRecDepth 100000 in
set_option maxHeartbeats 4000000 in
theorem w_L_isSo_362 {r0 : Int32} (CX : wk_X p l e R s m args below meth c cells slots Q cL_isSo 14 RL wsL_isSo D y B Lk A 4 102) (RT : wk_Rz p l e R s m args below meth c cells slots Q cL_isSo D y B Lk A r0 MM) (h19 : Lk 19 0 0) {k299 : Int32 → Int32 → Int32 → Int32 → Int32 → wk_T → Option (Int32 × wk_T)} (hk299 : ∀ (v7 : Int32) (v8 : Int32) (v9 : Int32) (v10 : Int32) (v11 : Int32) (M : wk_T) (H : Heap) (locs : List Loc) (ls : Array Slot), k299 v7 v8 v9 v10 v11 M = some (r0, MM) → lv_has ls 14 [(0, .ref (B 9 0 0)), (1, .ref (B 14 0 0)), (2, .ref (B 15 0 0)), (6, .ref (B 19 0 0)), (7, .int v7), (8, .int v8), (9, .int v9), (10, .int v10), (11, .int v11)] → wk_H D y B Lk M H → va_S A s.heap H locs → W p l e R s m args below meth c H locs cells slots Q (F0 m 299 ls [])) {k316 : Int32 → Int32 → Int32 → Int32 → Int32 → Int32 → Int32 → wk_T → Option (Int32 × wk_T)} (hk316 : ∀ (v7 : Int32) (v8 : Int32) (v9 : Int32) (v10 : Int32) (v11 : Int32) (v12 : Int32) (v13 : Int32) (M : wk_T) (H : Heap) (locs : List Loc) (ls : Array Slot), k316 v7 v8 v9 v10 v11 v12 v13 M = some (r0, MM) → lv_has ls 14 [(0, .ref (B 9 0 0)), (1, .ref (B 14 0 0)), (2, .ref (B 15 0 0)), (6, .ref (B 19 0 0)), (7, .int v7), (8, .int v8), (9, .int v9), (10, .int v10), (11, .int v11), (12, .int v12), (13, .int v13)] → wk_H D y B Lk M H → va_S A s.heap H locs → W p l e R s m args below meth c H locs cells slots Q (F0 m 316 ls [])) {v7 : Int32} {v8 : Int32} {v9 : Int32} {v11 : Int32} {v12 : Int32} {v13 : Int32} {s0 : Int32} {M : wk_T} {H : Heap} {locs : List Loc} {ls : Array Slot} (h : f_L_isSo_362 k299 k316 v7 v8 v9 v11 v12 v13 s0 M = some (r0, MM)) (hl : lv_has ls 14 [(0, .ref (B 9 0 0)), (1, .ref (B 14 0 0)), (2, .ref (B 15 0 0)), (6, .ref (B 19 0 0)), (7, .int v7), (8, .int v8), (9, .int v9), (11, .int v11), (12, .int v12), (13, .int v13)]) (hP : wk_H D y B Lk M H) (hS : va_S A s.heap H locs) : W p l e R s m args below meth c H locs cells slots Q (F0 m 362 ls [.int s0]) := by
  obtain ⟨⟨hx, hb, hml, hown, hts⟩, hK, hI, hL, hA, hfr, hlo, hcs⟩ := id CX
  unfold f_L_isSo_362 at h
  refine lv_istore (lv' := [(10, .int s0), (0, .ref (B 9 0 0)), (1, .ref (B 14 0 0)), (2, .ref (B 15 0 0)), (6, .ref (B 19 0 0)), (7, .int v7), (8, .int v8), (9, .int v9), (11, .int v11), (12, .int v12), (13, .int v13)]) hx hb dL_isSo_362 hl (by decide) rfl (fun ls hl => ?_)
  refine lv_iload hx hb dL_isSo_364 (lv_at hl 9 rfl) ?_
  refine lv_aload_n hx hb dL_isSo_366 rfl (lv_at hl 3 rfl) ?_
  refine lv_bipush (v := 8) hx hb dL_isSo_367 (by decide) ?_
  refine lv_iload hx hb dL_isSo_369 (lv_at hl 10 rfl) ?_
  refine lv_imul hx hb dL_isSo_371 ?_
  refine lv_bipush (v := 7) hx hb dL_isSo_372 (by decide) ?_
  refine lv_iadd hx hb dL_isSo_374 ?_
  obtain ⟨g1, h⟩ := wk_gd_e h
  refine wk_iald (j := ((8 * v13) + 7).toNatClampNeg) hx hb hK hP (wk_lL hL 15 (by decide) (by decide)) wk_c15 g1 rfl dL_isSo_375 ?_
  refine lv_iload hx hb dL_isSo_376 (lv_at hl 8 rfl) ?_
  refine lv_icmp_ne (tgt := 385) hx hb dL_isSo_378 (by decide) (fun g2 => ?_) (fun g2 => ?_)
  · have h := wk_n g2 h
    refine lv_iconst (v := 0) hx hb dL_isSo_385 (by decide) ?_
    exact w_L_isSo_386 CX RT h19 hk299 hk316 h (lv_sub hl [1, 2, 3, 4, 5, 6, 7, 0, 8, 10] rfl) hP hS
  · have h := wk_p g2 h
    refine lv_iconst (v := 1) hx hb dL_isSo_381 (by decide) ?_
    refine lv_goto (tgt := 386) hx hb dL_isSo_382 (by decide) ?_
    exact w_L_isSo_386 CX RT h19 hk299 hk316 h (lv_sub hl [1, 2, 3, 4, 5, 6, 7, 0, 8, 10] rfl) hP hS
set_option maxRecDepth 100000 in
set_option maxHeartbeats 4000000 in
theorem w_L_isSo_357 {r0 : Int32} (CX : wk_X p l e R s m args below meth c cells slots Q cL_isSo 14 RL wsL_isSo D y B Lk A 4 102) (RT : wk_Rz p l e R s m args below meth c cells slots Q cL_isSo D y B Lk A r0 MM) (h19 : Lk 19 0 0) {k299 : Int32 → Int32 → Int32 → Int32 → Int32 → wk_T → Option (Int32 × wk_T)} (hk299 : ∀ (v7 : Int32) (v8 : Int32) (v9 : Int32) (v10 : Int32) (v11 : Int32) (M : wk_T) (H : Heap) (locs : List Loc) (ls : Array Slot), k299 v7 v8 v9 v10 v11 M = some (r0, MM) → lv_has ls 14 [(0, .ref (B 9 0 0)), (1, .ref (B 14 0 0)), (2, .ref (B 15 0 0)), (6, .ref (B 19 0 0)), (7, .int v7), (8, .int v8), (9, .int v9), (10, .int v10), (11, .int v11)] → wk_H D y B Lk M H → va_S A s.heap H locs → W p l e R s m args below meth c H locs cells slots Q (F0 m 299 ls [])) {k316 : Int32 → Int32 → Int32 → Int32 → Int32 → Int32 → Int32 → wk_T → Option (Int32 × wk_T)} (hk316 : ∀ (v7 : Int32) (v8 : Int32) (v9 : Int32) (v10 : Int32) (v11 : Int32) (v12 : Int32) (v13 : Int32) (M : wk_T) (H : Heap) (locs : List Loc) (ls : Array Slot), k316 v7 v8 v9 v10 v11 v12 v13 M = some (r0, MM) → lv_has ls 14 [(0, .ref (B 9 0 0)), (1, .ref (B 14 0 0)), (2, .ref (B 15 0 0)), (6, .ref (B 19 0 0)), (7, .int v7), (8, .int v8), (9, .int v9), (10, .int v10), (11, .int v11), (12, .int v12), (13, .int v13)] → wk_H D y B Lk M H → va_S A s.heap H locs → W p l e R s m args below meth c H locs cells slots Q (F0 m 316 ls [])) {v7 : Int32} {v8 : Int32} {v9 : Int32} {v11 : Int32} {v12 : Int32} {v13 : Int32} {M : wk_T} {H : Heap} {locs : List Loc} {ls : Array Slot} (h : f_L_isSo_357 k299 k316 v7 v8 v9 v11 v12 v13 M = some (r0, MM)) (hl : lv_has ls 14 [(0, .ref (B 9 0 0)), (1, .ref (B 14 0 0)), (2, .ref (B 15 0 0)), (6, .ref (B 19 0 0)), (7, .int v7), (8, .int v8), (9, .int v9), (11, .int v11), (12, .int v12), (13, .int v13)]) (hP : wk_H D y B Lk M H) (hS : va_S A s.heap H locs) : W p l e R s m args below meth c H locs cells slots Q (F0 m 357 ls []) := by
  obtain ⟨⟨hx, hb, hml, hown, hts⟩, hK, hI, hL, hA, hfr, hlo, hcs⟩ := id CX
  unfold f_L_isSo_357 at h
  refine lv_iconst (v := 1) hx hb dL_isSo_357 (by decide) ?_
  refine lv_goto (tgt := 362) hx hb dL_isSo_358 (by decide) ?_
  exact w_L_isSo_362 CX RT h19 hk299 hk316 h (lv_sub hl [0, 1, 2, 3, 4, 5, 6, 7, 8, 9] rfl) hP hS
set_option maxRecDepth 100000 in
set_option maxHeartbeats 4000000 in
theorem w_L_isSo_429 {r0 : Int32} (CX : wk_X p l e R s m args below meth c cells slots Q cL_isSo 14 RL wsL_isSo D y B Lk A 4 102) (RT : wk_Rz p l e R s m args below meth c cells slots Q cL_isSo D y B Lk A r0 MM) (h19 : Lk 19 0 0) {k299 : Int32 → Int32 → Int32 → Int32 → Int32 → wk_T → Option (Int32 × wk_T)} (hk299 : ∀ (v7 : Int32) (v8 : Int32) (v9 : Int32) (v10 : Int32) (v11 : Int32) (M : wk_T) (H : Heap) (locs : List Loc) (ls : Array Slot), k299 v7 v8 v9 v10 v11 M = some (r0, MM) → lv_has ls 14 [(0, .ref (B 9 0 0)), (1, .ref (B 14 0 0)), (2, .ref (B 15 0 0)), (6, .ref (B 19 0 0)), (7, .int v7), (8, .int v8), (9, .int v9), (10, .int v10), (11, .int v11)] → wk_H D y B Lk M H → va_S A s.heap H locs → W p l e R s m args below meth c H locs cells slots Q (F0 m 299 ls [])) {v7 : Int32} {v8 : Int32} {v9 : Int32} {v11 : Int32} {s0 : Int32} {M : wk_T} {H : Heap} {locs : List Loc} {ls : Array Slot} (h : f_L_isSo_429 k299 v7 v8 v9 v11 s0 M = some (r0, MM)) (hl : lv_has ls 14 [(0, .ref (B 9 0 0)), (1, .ref (B 14 0 0)), (2, .ref (B 15 0 0)), (6, .ref (B 19 0 0)), (7, .int v7), (8, .int v8), (9, .int v9), (11, .int v11)]) (hP : wk_H D y B Lk M H) (hS : va_S A s.heap H locs) : W p l e R s m args below meth c H locs cells slots Q (F0 m 429 ls [.int s0]) := by
  obtain ⟨⟨hx, hb, hml, hown, hts⟩, hK, hI, hL, hA, hfr, hlo, hcs⟩ := id CX
  unfold f_L_isSo_429 at h
  refine lv_istore (lv' := [(10, .int s0), (0, .ref (B 9 0 0)), (1, .ref (B 14 0 0)), (2, .ref (B 15 0 0)), (6, .ref (B 19 0 0)), (7, .int v7), (8, .int v8), (9, .int v9), (11, .int v11)]) hx hb dL_isSo_429 hl (by decide) rfl (fun ls hl => ?_)
  obtain ⟨x1, ex1, h⟩ := wk_lt_e h
  refine lv_iinc (v := x1) (lv' := [(11, .int x1), (10, .int s0), (0, .ref (B 9 0 0)), (1, .ref (B 14 0 0)), (2, .ref (B 15 0 0)), (6, .ref (B 19 0 0)), (7, .int v7), (8, .int v8), (9, .int v9)]) hx hb dL_isSo_431 hl (k := 8) rfl (by rw [← ex1]; rfl) (by decide) rfl (fun ls hl => ?_)
  refine lv_goto (tgt := 299) hx hb dL_isSo_434 (by decide) ?_
  exact hk299 _ _ _ _ _ _ _ _ _ h (lv_sub hl [2, 3, 4, 5, 6, 7, 8, 1, 0] rfl) hP hS
set_option maxRecDepth 100000 in
set_option maxHeartbeats 4000000 in
theorem w_L_isSo_428 {r0 : Int32} (CX : wk_X p l e R s m args below meth c cells slots Q cL_isSo 14 RL wsL_isSo D y B Lk A 4 102) (RT : wk_Rz p l e R s m args below meth c cells slots Q cL_isSo D y B Lk A r0 MM) (h19 : Lk 19 0 0) {k299 : Int32 → Int32 → Int32 → Int32 → Int32 → wk_T → Option (Int32 × wk_T)} (hk299 : ∀ (v7 : Int32) (v8 : Int32) (v9 : Int32) (v10 : Int32) (v11 : Int32) (M : wk_T) (H : Heap) (locs : List Loc) (ls : Array Slot), k299 v7 v8 v9 v10 v11 M = some (r0, MM) → lv_has ls 14 [(0, .ref (B 9 0 0)), (1, .ref (B 14 0 0)), (2, .ref (B 15 0 0)), (6, .ref (B 19 0 0)), (7, .int v7), (8, .int v8), (9, .int v9), (10, .int v10), (11, .int v11)] → wk_H D y B Lk M H → va_S A s.heap H locs → W p l e R s m args below meth c H locs cells slots Q (F0 m 299 ls [])) {v7 : Int32} {v8 : Int32} {v9 : Int32} {v11 : Int32} {M : wk_T} {H : Heap} {locs : List Loc} {ls : Array Slot} (h : f_L_isSo_428 k299 v7 v8 v9 v11 M = some (r0, MM)) (hl : lv_has ls 14 [(0, .ref (B 9 0 0)), (1, .ref (B 14 0 0)), (2, .ref (B 15 0 0)), (6, .ref (B 19 0 0)), (7, .int v7), (8, .int v8), (9, .int v9), (11, .int v11)]) (hP : wk_H D y B Lk M H) (hS : va_S A s.heap H locs) : W p l e R s m args below meth c H locs cells slots Q (F0 m 428 ls []) := by
  obtain ⟨⟨hx, hb, hml, hown, hts⟩, hK, hI, hL, hA, hfr, hlo, hcs⟩ := id CX
  unfold f_L_isSo_428 at h
  refine lv_iconst (v := 0) hx hb dL_isSo_428 (by decide) ?_
  exact w_L_isSo_429 CX RT h19 hk299 h (lv_sub hl [0, 1, 2, 3, 4, 5, 6, 7] rfl) hP hS
set_option maxRecDepth 100000 in
set_option maxHeartbeats 4000000 in
theorem w_L_isSo_395 {r0 : Int32} (CX : wk_X p l e R s m args below meth c cells slots Q cL_isSo 14 RL wsL_isSo D y B Lk A 4 102) (RT : wk_Rz p l e R s m args below meth c cells slots Q cL_isSo D y B Lk A r0 MM) (h19 : Lk 19 0 0) {k299 : Int32 → Int32 → Int32 → Int32 → Int32 → wk_T → Option (Int32 × wk_T)} (hk299 : ∀ (v7 : Int32) (v8 : Int32) (v9 : Int32) (v10 : Int32) (v11 : Int32) (M : wk_T) (H : Heap) (locs : List Loc) (ls : Array Slot), k299 v7 v8 v9 v10 v11 M = some (r0, MM) → lv_has ls 14 [(0, .ref (B 9 0 0)), (1, .ref (B 14 0 0)), (2, .ref (B 15 0 0)), (6, .ref (B 19 0 0)), (7, .int v7), (8, .int v8), (9, .int v9), (10, .int v10), (11, .int v11)] → wk_H D y B Lk M H → va_S A s.heap H locs → W p l e R s m args below meth c H locs cells slots Q (F0 m 299 ls [])) {v7 : Int32} {v8 : Int32} {v9 : Int32} {v10 : Int32} {v11 : Int32} {v12 : Int32} {M : wk_T} {H : Heap} {locs : List Loc} {ls : Array Slot} (h : f_L_isSo_395 k299 v7 v8 v9 v10 v11 v12 M = some (r0, MM)) (hl : lv_has ls 14 [(0, .ref (B 9 0 0)), (1, .ref (B 14 0 0)), (2, .ref (B 15 0 0)), (6, .ref (B 19 0 0)), (7, .int v7), (8, .int v8), (9, .int v9), (10, .int v10), (11, .int v11), (12, .int v12)]) (hP : wk_H D y B Lk M H) (hS : va_S A s.heap H locs) : W p l e R s m args below meth c H locs cells slots Q (F0 m 395 ls []) := by
  obtain ⟨⟨hx, hb, hml, hown, hts⟩, hK, hI, hL, hA, hfr, hlo, hcs⟩ := id CX
  unfold f_L_isSo_395 at h
  refine lv_iload hx hb dL_isSo_395 (lv_at hl 7 rfl) ?_
  refine lv_if_eq (tgt := 428) hx hb dL_isSo_397 (by decide) (fun g1 => ?_) (fun g1 => ?_)
  · have h := wk_p g1 h
    exact w_L_isSo_428 CX RT h19 hk299 h (lv_sub hl [0, 1, 2, 3, 4, 5, 6, 8] rfl) hP hS
  · have h := wk_n g1 h
    refine lv_aload_n hx hb dL_isSo_400 rfl (lv_at hl 0 rfl) ?_
    refine lv_iload hx hb dL_isSo_401 (lv_at hl 8 rfl) ?_
    refine lv_iload hx hb dL_isSo_403 (lv_at hl 9 rfl) ?_
    obtain ⟨r2, M3, er2, h⟩ := wk_cl_e h
    refine wk_cVi (As := [.int v11, .int v12]) (rest := []) ⟨hx, hb, hml, hown, hts⟩ (m_X3_pluggedAt l hI hL er2) (cwV 2 hts gL_isSo_X3_pluggedAt rfl rfl rfl (by decide +kernel) ⟨Nat.le_trans (by decide) hfr, Nat.le_trans (by decide) hlo⟩) hK hP hS hA (wk_l9 hL 9 (by decide) (by decide)) wk_c9 rfl rfl hl.1 (lv_room (Nat.le_of_ble_eq_true rfl)) hcs dL_isSo_405 (fun H locs hP hS => ?_)
    refine lv_bipush (v := (-4)) hx hb dL_isSo_408 (by decide) ?_
    refine lv_icmp_ne (tgt := 428) hx hb dL_isSo_410 (by decide) (fun g4 => ?_) (fun g4 => ?_)
    · have h := wk_n g4 h
      exact w_L_isSo_428 CX RT h19 hk299 h (lv_sub hl [0, 1, 2, 3, 4, 5, 6, 8] rfl) hP hS
    · have h := wk_p g4 h
      refine lv_aload_n hx hb dL_isSo_413 rfl (lv_at hl 0 rfl) ?_
      refine lv_iload hx hb dL_isSo_414 (lv_at hl 8 rfl) ?_
      refine lv_iconst (v := (-1)) hx hb dL_isSo_416 (by decide) ?_
      obtain ⟨r5, M6, er5, h⟩ := wk_cl_e h
      refine wk_cVi (As := [.int v11, .int (-1)]) (rest := []) ⟨hx, hb, hml, hown, hts⟩ (m_X3_pluggedAt l hI hL er5) (cwV 2 hts gL_isSo_X3_pluggedAt rfl rfl rfl (by decide +kernel) ⟨Nat.le_trans (by decide) hfr, Nat.le_trans (by decide) hlo⟩) hK hP hS hA (wk_l9 hL 9 (by decide) (by decide)) wk_c9 rfl rfl hl.1 (lv_room (Nat.le_of_ble_eq_true rfl)) hcs dL_isSo_417 (fun H locs hP hS => ?_)
      refine lv_iconst (v := (-1)) hx hb dL_isSo_420 (by decide) ?_
      refine lv_icmp_ne (tgt := 428) hx hb dL_isSo_421 (by decide) (fun g7 => ?_) (fun g7 => ?_)
      · have h := wk_n g7 h
        exact w_L_isSo_428 CX RT h19 hk299 h (lv_sub hl [0, 1, 2, 3, 4, 5, 6, 8] rfl) hP hS
      · have h := wk_p g7 h
        refine lv_iconst (v := 1) hx hb dL_isSo_424 (by decide) ?_
        refine lv_goto (tgt := 429) hx hb dL_isSo_425 (by decide) ?_
        exact w_L_isSo_429 CX RT h19 hk299 h (lv_sub hl [0, 1, 2, 3, 4, 5, 6, 8] rfl) hP hS
set_option maxRecDepth 100000 in
set_option maxHeartbeats 4000000 in
theorem w_L_isSo_316 {r0 : Int32} (CX : wk_X p l e R s m args below meth c cells slots Q cL_isSo 14 RL wsL_isSo D y B Lk A 4 102) (RT : wk_Rz p l e R s m args below meth c cells slots Q cL_isSo D y B Lk A r0 MM) (h19 : Lk 19 0 0) {k299 : Int32 → Int32 → Int32 → Int32 → Int32 → wk_T → Option (Int32 × wk_T)} (hk299 : ∀ (v7 : Int32) (v8 : Int32) (v9 : Int32) (v10 : Int32) (v11 : Int32) (M : wk_T) (H : Heap) (locs : List Loc) (ls : Array Slot), k299 v7 v8 v9 v10 v11 M = some (r0, MM) → lv_has ls 14 [(0, .ref (B 9 0 0)), (1, .ref (B 14 0 0)), (2, .ref (B 15 0 0)), (6, .ref (B 19 0 0)), (7, .int v7), (8, .int v8), (9, .int v9), (10, .int v10), (11, .int v11)] → wk_H D y B Lk M H → va_S A s.heap H locs → W p l e R s m args below meth c H locs cells slots Q (F0 m 299 ls [])) : ∀ (n : Nat) (v7 : Int32) (v8 : Int32) (v9 : Int32) (v10 : Int32) (v11 : Int32) (v12 : Int32) (v13 : Int32) (M : wk_T) (H : Heap) (locs : List Loc) (ls : Array Slot), f_L_isSo_316 k299 n v7 v8 v9 v10 v11 v12 v13 M = some (r0, MM) → lv_has ls 14 [(0, .ref (B 9 0 0)), (1, .ref (B 14 0 0)), (2, .ref (B 15 0 0)), (6, .ref (B 19 0 0)), (7, .int v7), (8, .int v8), (9, .int v9), (10, .int v10), (11, .int v11), (12, .int v12), (13, .int v13)] → wk_H D y B Lk M H → va_S A s.heap H locs → W p l e R s m args below meth c H locs cells slots Q (F0 m 316 ls []) := by
  obtain ⟨⟨hx, hb, hml, hown, hts⟩, hK, hI, hL, hA, hfr, hlo, hcs⟩ := id CX
  intro n
  induction n with
  | zero =>
    intro v7 v8 v9 v10 v11 v12 v13 M H locs ls h
    exact absurd h (by rw [f_L_isSo_316]; exact fun z => nomatch z)
  | succ n ih =>
    intro v7 v8 v9 v10 v11 v12 v13 M H locs ls h hl hP hS
    rw [f_L_isSo_316] at h
    refine lv_iload hx hb dL_isSo_316 (lv_at hl 10 rfl) ?_
    refine lv_aload_n hx hb dL_isSo_318 rfl (lv_at hl 1 rfl) ?_
    refine lv_iconst (v := 0) hx hb dL_isSo_319 (by decide) ?_
    refine wk_iald (j := 0) hx hb hK hP (wk_lL hL 14 (by decide) (by decide)) wk_c14 (by decide) (by decide) dL_isSo_320 ?_
    refine lv_icmp_ge (tgt := 395) hx hb dL_isSo_321 (by decide) (fun g1 => ?_) (fun g1 => ?_)
    · have h := wk_p g1 h
      exact w_L_isSo_395 CX RT h19 hk299 h (lv_sub hl [0, 1, 2, 3, 4, 5, 6, 7, 8, 9] rfl) hP hS
    · have h := wk_n g1 h
      refine lv_iload hx hb dL_isSo_324 (lv_at hl 7 rfl) ?_
      refine lv_if_eq (tgt := 395) hx hb dL_isSo_326 (by decide) (fun g2 => ?_) (fun g2 => ?_)
      · have h := wk_p g2 h
        exact w_L_isSo_395 CX RT h19 hk299 h (lv_sub hl [0, 1, 2, 3, 4, 5, 6, 7, 8, 9] rfl) hP hS
      · have h := wk_n g2 h
        refine lv_aload_n hx hb dL_isSo_329 rfl (lv_at hl 2 rfl) ?_
        refine lv_bipush (v := 8) hx hb dL_isSo_330 (by decide) ?_
        refine lv_iload hx hb dL_isSo_332 (lv_at hl 10 rfl) ?_
        refine lv_imul hx hb dL_isSo_334 ?_
        refine lv_bipush (v := 7) hx hb dL_isSo_335 (by decide) ?_
        refine lv_iadd hx hb dL_isSo_337 ?_
        obtain ⟨g3, h⟩ := wk_gd_e h
        refine wk_iald (j := ((8 * v13) + 7).toNatClampNeg) hx hb hK hP (wk_lL hL 15 (by decide) (by decide)) wk_c15 g3 rfl dL_isSo_338 ?_
        refine lv_iload hx hb dL_isSo_339 (lv_at hl 8 rfl) ?_
        refine lv_icmp_ne (tgt := 357) hx hb dL_isSo_341 (by decide) (fun g4 => ?_) (fun g4 => ?_)
        · have h := wk_n g4 h
          exact w_L_isSo_357 CX RT h19 hk299 ih h (lv_sub hl [0, 1, 2, 3, 4, 5, 6, 8, 9, 10] rfl) hP hS
        · have h := wk_p g4 h
          refine lv_aload_n hx hb dL_isSo_344 rfl (lv_at hl 0 rfl) ?_
          refine lv_iload hx hb dL_isSo_345 (lv_at hl 8 rfl) ?_
          refine lv_iload hx hb dL_isSo_347 (lv_at hl 9 rfl) ?_
          obtain ⟨r5, M6, er5, h⟩ := wk_cl_e h
          refine wk_cVi (As := [.int v11, .int v12]) (rest := []) ⟨hx, hb, hml, hown, hts⟩ (m_X3_pluggedAt l hI hL er5) (cwV 2 hts gL_isSo_X3_pluggedAt rfl rfl rfl (by decide +kernel) ⟨Nat.le_trans (by decide) hfr, Nat.le_trans (by decide) hlo⟩) hK hP hS hA (wk_l9 hL 9 (by decide) (by decide)) wk_c9 rfl rfl hl.1 (lv_room (Nat.le_of_ble_eq_true rfl)) hcs dL_isSo_349 (fun H locs hP hS => ?_)
          refine lv_iload hx hb dL_isSo_352 (lv_at hl 10 rfl) ?_
          refine lv_icmp_ne (tgt := 361) hx hb dL_isSo_354 (by decide) (fun g7 => ?_) (fun g7 => ?_)
          · have h := wk_n g7 h
            refine lv_iconst (v := 0) hx hb dL_isSo_361 (by decide) ?_
            exact w_L_isSo_362 CX RT h19 hk299 ih h (lv_sub hl [0, 1, 2, 3, 4, 5, 6, 8, 9, 10] rfl) hP hS
          · have h := wk_p g7 h
            exact w_L_isSo_357 CX RT h19 hk299 ih h (lv_sub hl [0, 1, 2, 3, 4, 5, 6, 8, 9, 10] rfl) hP hS
set_option maxRecDepth 100000 in
set_option maxHeartbeats 4000000 in
theorem w_L_isSo_541 {r0 : Int32} (CX : wk_X p l e R s m args below meth c cells slots Q cL_isSo 14 RL wsL_isSo D y B Lk A 4 102) (RT : wk_Rz p l e R s m args below meth c cells slots Q cL_isSo D y B Lk A r0 MM) (h19 : Lk 19 0 0) {v7 : Int32} {v8 : Int32} {v9 : Int32} {s0 : Int32} {M : wk_T} {H : Heap} {locs : List Loc} {ls : Array Slot} (h : f_L_isSo_541 v7 v8 v9 s0 M = some (r0, MM)) (hl : lv_has ls 14 [(0, .ref (B 9 0 0)), (1, .ref (B 14 0 0)), (7, .int v7), (8, .int v8), (9, .int v9)]) (hP : wk_H D y B Lk M H) (hS : va_S A s.heap H locs) : W p l e R s m args below meth c H locs cells slots Q (F0 m 541 ls [.int s0]) := by
  obtain ⟨⟨hx, hb, hml, hown, hts⟩, hK, hI, hL, hA, hfr, hlo, hcs⟩ := id CX
  unfold f_L_isSo_541 at h
  refine lv_istore (lv' := [(10, .int s0), (0, .ref (B 9 0 0)), (1, .ref (B 14 0 0)), (7, .int v7), (8, .int v8), (9, .int v9)]) hx hb dL_isSo_541 hl (by decide) rfl (fun ls hl => ?_)
  refine lv_iload hx hb dL_isSo_543 (lv_at hl 0 rfl) ?_
  refine lv_if_eq (tgt := 618) hx hb dL_isSo_545 (by decide) (fun g1 => ?_) (fun g1 => ?_)
  · have h := wk_p g1 h
    refine lv_iconst (v := 0) hx hb dL_isSo_618 (by decide) ?_
    exact RT _ _ _ _ _ _ (Or.inl rfl) h hP hS dL_isSo_619
  · have h := wk_n g1 h
    refine lv_aload_n hx hb dL_isSo_548 rfl (lv_at hl 1 rfl) ?_
    refine lv_bipush (v := 7) hx hb dL_isSo_549 (by decide) ?_
    obtain ⟨r2, M3, er2, h⟩ := wk_cl_e h
    refine wk_cVi (As := [.int 7]) (rest := []) ⟨hx, hb, hml, hown, hts⟩ (m_X3_count l hI hL er2) (cwV 1 hts gL_isSo_X3_count rfl rfl rfl (by decide +kernel) ⟨Nat.le_trans (by decide) hfr, Nat.le_trans (by decide) hlo⟩) hK hP hS hA (wk_l9 hL 9 (by decide) (by decide)) wk_c9 rfl rfl hl.1 (lv_room (Nat.le_of_ble_eq_true rfl)) hcs dL_isSo_551 (fun H locs hP hS => ?_)
    refine lv_iload hx hb dL_isSo_554 (lv_at hl 3 rfl) ?_
    refine lv_icmp_ne (tgt := 618) hx hb dL_isSo_556 (by decide) (fun g4 => ?_) (fun g4 => ?_)
    · have h := wk_n g4 h
      refine lv_iconst (v := 0) hx hb dL_isSo_618 (by decide) ?_
      exact RT _ _ _ _ _ _ (Or.inl rfl) h hP hS dL_isSo_619
    · have h := wk_p g4 h
      refine lv_aload_n hx hb dL_isSo_559 rfl (lv_at hl 1 rfl) ?_
      refine lv_bipush (v := 8) hx hb dL_isSo_560 (by decide) ?_
      obtain ⟨r5, M6, er5, h⟩ := wk_cl_e h
      refine wk_cVi (As := [.int 8]) (rest := []) ⟨hx, hb, hml, hown, hts⟩ (m_X3_count l hI hL er5) (cwV 1 hts gL_isSo_X3_count rfl rfl rfl (by decide +kernel) ⟨Nat.le_trans (by decide) hfr, Nat.le_trans (by decide) hlo⟩) hK hP hS hA (wk_l9 hL 9 (by decide) (by decide)) wk_c9 rfl rfl hl.1 (lv_room (Nat.le_of_ble_eq_true rfl)) hcs dL_isSo_562 (fun H locs hP hS => ?_)
      refine lv_iload hx hb dL_isSo_565 (lv_at hl 4 rfl) ?_
      refine lv_icmp_ne (tgt := 618) hx hb dL_isSo_567 (by decide) (fun g7 => ?_) (fun g7 => ?_)
      · have h := wk_n g7 h
        refine lv_iconst (v := 0) hx hb dL_isSo_618 (by decide) ?_
        exact RT _ _ _ _ _ _ (Or.inl rfl) h hP hS dL_isSo_619
      · have h := wk_p g7 h
        refine lv_aload_n hx hb dL_isSo_570 rfl (lv_at hl 1 rfl) ?_
        refine lv_bipush (v := 9) hx hb dL_isSo_571 (by decide) ?_
        obtain ⟨r8, M9, er8, h⟩ := wk_cl_e h
        refine wk_cVi (As := [.int 9]) (rest := []) ⟨hx, hb, hml, hown, hts⟩ (m_X3_count l hI hL er8) (cwV 1 hts gL_isSo_X3_count rfl rfl rfl (by decide +kernel) ⟨Nat.le_trans (by decide) hfr, Nat.le_trans (by decide) hlo⟩) hK hP hS hA (wk_l9 hL 9 (by decide) (by decide)) wk_c9 rfl rfl hl.1 (lv_room (Nat.le_of_ble_eq_true rfl)) hcs dL_isSo_573 (fun H locs hP hS => ?_)
        refine lv_iload hx hb dL_isSo_576 (lv_at hl 5 rfl) ?_
        refine lv_icmp_ne (tgt := 618) hx hb dL_isSo_578 (by decide) (fun g10 => ?_) (fun g10 => ?_)
        · have h := wk_n g10 h
          refine lv_iconst (v := 0) hx hb dL_isSo_618 (by decide) ?_
          exact RT _ _ _ _ _ _ (Or.inl rfl) h hP hS dL_isSo_619
        · have h := wk_p g10 h
          refine lv_aload_n hx hb dL_isSo_581 rfl (lv_at hl 1 rfl) ?_
          refine lv_bipush (v := 11) hx hb dL_isSo_582 (by decide) ?_
          obtain ⟨r11, M12, er11, h⟩ := wk_cl_e h
          refine wk_cVi (As := [.int 11]) (rest := []) ⟨hx, hb, hml, hown, hts⟩ (m_X3_count l hI hL er11) (cwV 1 hts gL_isSo_X3_count rfl rfl rfl (by decide +kernel) ⟨Nat.le_trans (by decide) hfr, Nat.le_trans (by decide) hlo⟩) hK hP hS hA (wk_l9 hL 9 (by decide) (by decide)) wk_c9 rfl rfl hl.1 (lv_room (Nat.le_of_ble_eq_true rfl)) hcs dL_isSo_584 (fun H locs hP hS => ?_)
          refine lv_if_ne (tgt := 618) hx hb dL_isSo_587 (by decide) (fun g13 => ?_) (fun g13 => ?_)
          · have h := wk_n g13 h
            refine lv_iconst (v := 0) hx hb dL_isSo_618 (by decide) ?_
            exact RT _ _ _ _ _ _ (Or.inl rfl) h hP hS dL_isSo_619
          · have h := wk_p g13 h
            refine lv_aload_n hx hb dL_isSo_590 rfl (lv_at hl 1 rfl) ?_
            refine lv_bipush (v := 20) hx hb dL_isSo_591 (by decide) ?_
            obtain ⟨r14, M15, er14, h⟩ := wk_cl_e h
            refine wk_cVi (As := [.int 20]) (rest := []) ⟨hx, hb, hml, hown, hts⟩ (m_X3_count l hI hL er14) (cwV 1 hts gL_isSo_X3_count rfl rfl rfl (by decide +kernel) ⟨Nat.le_trans (by decide) hfr, Nat.le_trans (by decide) hlo⟩) hK hP hS hA (wk_l9 hL 9 (by decide) (by decide)) wk_c9 rfl rfl hl.1 (lv_room (Nat.le_of_ble_eq_true rfl)) hcs dL_isSo_593 (fun H locs hP hS => ?_)
            refine lv_aload_n hx hb dL_isSo_596 rfl (lv_at hl 2 rfl) ?_
            refine lv_iconst (v := 3) hx hb dL_isSo_597 (by decide) ?_
            refine wk_iald (j := 3) hx hb hK hP (wk_lL hL 14 (by decide) (by decide)) wk_c14 (by decide) (by decide) dL_isSo_598 ?_
            refine lv_icmp_ne (tgt := 618) hx hb dL_isSo_599 (by decide) (fun g16 => ?_) (fun g16 => ?_)
            · have h := wk_n g16 h
              refine lv_iconst (v := 0) hx hb dL_isSo_618 (by decide) ?_
              exact RT _ _ _ _ _ _ (Or.inl rfl) h hP hS dL_isSo_619
            · have h := wk_p g16 h
              refine lv_aload_n hx hb dL_isSo_602 rfl (lv_at hl 1 rfl) ?_
              refine lv_bipush (v := 21) hx hb dL_isSo_603 (by decide) ?_
              obtain ⟨r17, M18, er17, h⟩ := wk_cl_e h
              refine wk_cVi (As := [.int 21]) (rest := []) ⟨hx, hb, hml, hown, hts⟩ (m_X3_count l hI hL er17) (cwV 1 hts gL_isSo_X3_count rfl rfl rfl (by decide +kernel) ⟨Nat.le_trans (by decide) hfr, Nat.le_trans (by decide) hlo⟩) hK hP hS hA (wk_l9 hL 9 (by decide) (by decide)) wk_c9 rfl rfl hl.1 (lv_room (Nat.le_of_ble_eq_true rfl)) hcs dL_isSo_605 (fun H locs hP hS => ?_)
              refine lv_aload_n hx hb dL_isSo_608 rfl (lv_at hl 2 rfl) ?_
              refine lv_iconst (v := 4) hx hb dL_isSo_609 (by decide) ?_
              refine wk_iald (j := 4) hx hb hK hP (wk_lL hL 14 (by decide) (by decide)) wk_c14 (by decide) (by decide) dL_isSo_610 ?_
              refine lv_icmp_ne (tgt := 618) hx hb dL_isSo_611 (by decide) (fun g19 => ?_) (fun g19 => ?_)
              · have h := wk_n g19 h
                refine lv_iconst (v := 0) hx hb dL_isSo_618 (by decide) ?_
                exact RT _ _ _ _ _ _ (Or.inl rfl) h hP hS dL_isSo_619
              · have h := wk_p g19 h
                refine lv_iconst (v := 1) hx hb dL_isSo_614 (by decide) ?_
                refine lv_goto (tgt := 619) hx hb dL_isSo_615 (by decide) ?_
                exact RT _ _ _ _ _ _ (Or.inr rfl) h hP hS dL_isSo_619
set_option maxRecDepth 100000 in
set_option maxHeartbeats 4000000 in
theorem w_L_isSo_540 {r0 : Int32} (CX : wk_X p l e R s m args below meth c cells slots Q cL_isSo 14 RL wsL_isSo D y B Lk A 4 102) (RT : wk_Rz p l e R s m args below meth c cells slots Q cL_isSo D y B Lk A r0 MM) (h19 : Lk 19 0 0) {v7 : Int32} {v8 : Int32} {v9 : Int32} {M : wk_T} {H : Heap} {locs : List Loc} {ls : Array Slot} (h : f_L_isSo_540 v7 v8 v9 M = some (r0, MM)) (hl : lv_has ls 14 [(0, .ref (B 9 0 0)), (1, .ref (B 14 0 0)), (7, .int v7), (8, .int v8), (9, .int v9)]) (hP : wk_H D y B Lk M H) (hS : va_S A s.heap H locs) : W p l e R s m args below meth c H locs cells slots Q (F0 m 540 ls []) := by
  obtain ⟨⟨hx, hb, hml, hown, hts⟩, hK, hI, hL, hA, hfr, hlo, hcs⟩ := id CX
  unfold f_L_isSo_540 at h
  refine lv_iconst (v := 0) hx hb dL_isSo_540 (by decide) ?_
  exact w_L_isSo_541 CX RT h19 h (lv_sub hl [0, 1, 2, 3, 4] rfl) hP hS
set_option maxRecDepth 100000 in
set_option maxHeartbeats 4000000 in
theorem w_L_isSo_437 {r0 : Int32} (CX : wk_X p l e R s m args below meth c cells slots Q cL_isSo 14 RL wsL_isSo D y B Lk A 4 102) (RT : wk_Rz p l e R s m args below meth c cells slots Q cL_isSo D y B Lk A r0 MM) (h19 : Lk 19 0 0) {v7 : Int32} {v8 : Int32} {v9 : Int32} {v10 : Int32} {M : wk_T} {H : Heap} {locs : List Loc} {ls : Array Slot} (h : f_L_isSo_437 v7 v8 v9 v10 M = some (r0, MM)) (hl : lv_has ls 14 [(0, .ref (B 9 0 0)), (1, .ref (B 14 0 0)), (6, .ref (B 19 0 0)), (7, .int v7), (8, .int v8), (9, .int v9), (10, .int v10)]) (hP : wk_H D y B Lk M H) (hS : va_S A s.heap H locs) : W p l e R s m args below meth c H locs cells slots Q (F0 m 437 ls []) := by
  obtain ⟨⟨hx, hb, hml, hown, hts⟩, hK, hI, hL, hA, hfr, hlo, hcs⟩ := id CX
  unfold f_L_isSo_437 at h
  refine lv_iload hx hb dL_isSo_437 (lv_at hl 6 rfl) ?_
  refine lv_if_eq (tgt := 540) hx hb dL_isSo_439 (by decide) (fun g1 => ?_) (fun g1 => ?_)
  · have h := wk_p g1 h
    exact w_L_isSo_540 CX RT h19 h (lv_sub hl [0, 1, 3, 4, 5] rfl) hP hS
  · have h := wk_n g1 h
    refine lv_aload_n hx hb dL_isSo_442 rfl (lv_at hl 0 rfl) ?_
    refine lv_aload_n hx hb dL_isSo_443 rfl (lv_at hl 1 rfl) ?_
    refine lv_iconst (v := 1) hx hb dL_isSo_444 (by decide) ?_
    refine wk_iald (j := 1) hx hb hK hP (wk_lL hL 14 (by decide) (by decide)) wk_c14 (by decide) (by decide) dL_isSo_445 ?_
    refine lv_iconst (v := 0) hx hb dL_isSo_446 (by decide) ?_
    obtain ⟨r2, M3, er2, h⟩ := wk_cl_e h
    refine wk_cVi (As := [.int (M 14 0 0 1), .int 0]) (rest := []) ⟨hx, hb, hml, hown, hts⟩ (m_X3_useOf l hI hL er2) (cwV 2 hts gL_isSo_X3_useOf rfl rfl rfl (by decide +kernel) ⟨Nat.le_trans (by decide) hfr, Nat.le_trans (by decide) hlo⟩) hK hP hS hA (wk_l9 hL 9 (by decide) (by decide)) wk_c9 rfl rfl hl.1 (lv_room (Nat.le_of_ble_eq_true rfl)) hcs dL_isSo_447 (fun H locs hP hS => ?_)
    refine lv_iconst (v := (-1)) hx hb dL_isSo_450 (by decide) ?_
    refine lv_icmp_ne (tgt := 540) hx hb dL_isSo_451 (by decide) (fun g4 => ?_) (fun g4 => ?_)
    · have h := wk_n g4 h
      exact w_L_isSo_540 CX RT h19 h (lv_sub hl [0, 1, 3, 4, 5] rfl) hP hS
    · have h := wk_p g4 h
      refine lv_aload_n hx hb dL_isSo_454 rfl (lv_at hl 0 rfl) ?_
      refine lv_iconst (v := 0) hx hb dL_isSo_455 (by decide) ?_
      obtain ⟨r5, M6, er5, h⟩ := wk_cl_e h
      refine wk_cVi (As := [.int 0]) (rest := []) ⟨hx, hb, hml, hown, hts⟩ (m_X3_count l hI hL er5) (cwV 1 hts gL_isSo_X3_count rfl rfl rfl (by decide +kernel) ⟨Nat.le_trans (by decide) hfr, Nat.le_trans (by decide) hlo⟩) hK hP hS hA (wk_l9 hL 9 (by decide) (by decide)) wk_c9 rfl rfl hl.1 (lv_room (Nat.le_of_ble_eq_true rfl)) hcs dL_isSo_456 (fun H locs hP hS => ?_)
      refine lv_aload_n hx hb dL_isSo_459 rfl (lv_at hl 1 rfl) ?_
      refine lv_iconst (v := 0) hx hb dL_isSo_460 (by decide) ?_
      refine wk_iald (j := 0) hx hb hK hP (wk_lL hL 14 (by decide) (by decide)) wk_c14 (by decide) (by decide) dL_isSo_461 ?_
      refine lv_icmp_ne (tgt := 540) hx hb dL_isSo_462 (by decide) (fun g7 => ?_) (fun g7 => ?_)
      · have h := wk_n g7 h
        exact w_L_isSo_540 CX RT h19 h (lv_sub hl [0, 1, 3, 4, 5] rfl) hP hS
      · have h := wk_p g7 h
        refine lv_aload_n hx hb dL_isSo_465 rfl (lv_at hl 0 rfl) ?_
        refine lv_iconst (v := 1) hx hb dL_isSo_466 (by decide) ?_
        obtain ⟨r8, M9, er8, h⟩ := wk_cl_e h
        refine wk_cVi (As := [.int 1]) (rest := []) ⟨hx, hb, hml, hown, hts⟩ (m_X3_count l hI hL er8) (cwV 1 hts gL_isSo_X3_count rfl rfl rfl (by decide +kernel) ⟨Nat.le_trans (by decide) hfr, Nat.le_trans (by decide) hlo⟩) hK hP hS hA (wk_l9 hL 9 (by decide) (by decide)) wk_c9 rfl rfl hl.1 (lv_room (Nat.le_of_ble_eq_true rfl)) hcs dL_isSo_467 (fun H locs hP hS => ?_)
        refine lv_aload_n hx hb dL_isSo_470 rfl (lv_at hl 1 rfl) ?_
        refine lv_iconst (v := 1) hx hb dL_isSo_471 (by decide) ?_
        refine wk_iald (j := 1) hx hb hK hP (wk_lL hL 14 (by decide) (by decide)) wk_c14 (by decide) (by decide) dL_isSo_472 ?_
        refine lv_icmp_ne (tgt := 540) hx hb dL_isSo_473 (by decide) (fun g10 => ?_) (fun g10 => ?_)
        · have h := wk_n g10 h
          exact w_L_isSo_540 CX RT h19 h (lv_sub hl [0, 1, 3, 4, 5] rfl) hP hS
        · have h := wk_p g10 h
          refine lv_aload_n hx hb dL_isSo_476 rfl (lv_at hl 0 rfl) ?_
          refine lv_iconst (v := 2) hx hb dL_isSo_477 (by decide) ?_
          obtain ⟨r11, M12, er11, h⟩ := wk_cl_e h
          refine wk_cVi (As := [.int 2]) (rest := []) ⟨hx, hb, hml, hown, hts⟩ (m_X3_count l hI hL er11) (cwV 1 hts gL_isSo_X3_count rfl rfl rfl (by decide +kernel) ⟨Nat.le_trans (by decide) hfr, Nat.le_trans (by decide) hlo⟩) hK hP hS hA (wk_l9 hL 9 (by decide) (by decide)) wk_c9 rfl rfl hl.1 (lv_room (Nat.le_of_ble_eq_true rfl)) hcs dL_isSo_478 (fun H locs hP hS => ?_)
          refine lv_aload_n hx hb dL_isSo_481 rfl (lv_at hl 1 rfl) ?_
          refine lv_iconst (v := 2) hx hb dL_isSo_482 (by decide) ?_
          refine wk_iald (j := 2) hx hb hK hP (wk_lL hL 14 (by decide) (by decide)) wk_c14 (by decide) (by decide) dL_isSo_483 ?_
          refine lv_icmp_ne (tgt := 540) hx hb dL_isSo_484 (by decide) (fun g13 => ?_) (fun g13 => ?_)
          · have h := wk_n g13 h
            exact w_L_isSo_540 CX RT h19 h (lv_sub hl [0, 1, 3, 4, 5] rfl) hP hS
          · have h := wk_p g13 h
            refine lv_aload_n hx hb dL_isSo_487 rfl (lv_at hl 0 rfl) ?_
            refine lv_iconst (v := 3) hx hb dL_isSo_488 (by decide) ?_
            obtain ⟨r14, M15, er14, h⟩ := wk_cl_e h
            refine wk_cVi (As := [.int 3]) (rest := []) ⟨hx, hb, hml, hown, hts⟩ (m_X3_count l hI hL er14) (cwV 1 hts gL_isSo_X3_count rfl rfl rfl (by decide +kernel) ⟨Nat.le_trans (by decide) hfr, Nat.le_trans (by decide) hlo⟩) hK hP hS hA (wk_l9 hL 9 (by decide) (by decide)) wk_c9 rfl rfl hl.1 (lv_room (Nat.le_of_ble_eq_true rfl)) hcs dL_isSo_489 (fun H locs hP hS => ?_)
            refine lv_aload hx hb dL_isSo_492 (lv_at hl 2 rfl) ?_
            refine lv_iconst (v := 0) hx hb dL_isSo_494 (by decide) ?_
            refine wk_iald (j := 0) hx hb hK hP h19 wk_c19 (by decide) (by decide) dL_isSo_495 ?_
            refine lv_icmp_ne (tgt := 540) hx hb dL_isSo_496 (by decide) (fun g16 => ?_) (fun g16 => ?_)
            · have h := wk_n g16 h
              exact w_L_isSo_540 CX RT h19 h (lv_sub hl [0, 1, 3, 4, 5] rfl) hP hS
            · have h := wk_p g16 h
              refine lv_aload_n hx hb dL_isSo_499 rfl (lv_at hl 0 rfl) ?_
              refine lv_iconst (v := 4) hx hb dL_isSo_500 (by decide) ?_
              obtain ⟨r17, M18, er17, h⟩ := wk_cl_e h
              refine wk_cVi (As := [.int 4]) (rest := []) ⟨hx, hb, hml, hown, hts⟩ (m_X3_count l hI hL er17) (cwV 1 hts gL_isSo_X3_count rfl rfl rfl (by decide +kernel) ⟨Nat.le_trans (by decide) hfr, Nat.le_trans (by decide) hlo⟩) hK hP hS hA (wk_l9 hL 9 (by decide) (by decide)) wk_c9 rfl rfl hl.1 (lv_room (Nat.le_of_ble_eq_true rfl)) hcs dL_isSo_501 (fun H locs hP hS => ?_)
              refine lv_aload hx hb dL_isSo_504 (lv_at hl 2 rfl) ?_
              refine lv_iconst (v := 1) hx hb dL_isSo_506 (by decide) ?_
              refine wk_iald (j := 1) hx hb hK hP h19 wk_c19 (by decide) (by decide) dL_isSo_507 ?_
              refine lv_icmp_ne (tgt := 540) hx hb dL_isSo_508 (by decide) (fun g19 => ?_) (fun g19 => ?_)
              · have h := wk_n g19 h
                exact w_L_isSo_540 CX RT h19 h (lv_sub hl [0, 1, 3, 4, 5] rfl) hP hS
              · have h := wk_p g19 h
                refine lv_aload_n hx hb dL_isSo_511 rfl (lv_at hl 0 rfl) ?_
                refine lv_iconst (v := 5) hx hb dL_isSo_512 (by decide) ?_
                obtain ⟨r20, M21, er20, h⟩ := wk_cl_e h
                refine wk_cVi (As := [.int 5]) (rest := []) ⟨hx, hb, hml, hown, hts⟩ (m_X3_count l hI hL er20) (cwV 1 hts gL_isSo_X3_count rfl rfl rfl (by decide +kernel) ⟨Nat.le_trans (by decide) hfr, Nat.le_trans (by decide) hlo⟩) hK hP hS hA (wk_l9 hL 9 (by decide) (by decide)) wk_c9 rfl rfl hl.1 (lv_room (Nat.le_of_ble_eq_true rfl)) hcs dL_isSo_513 (fun H locs hP hS => ?_)
                refine lv_aload hx hb dL_isSo_516 (lv_at hl 2 rfl) ?_
                refine lv_iconst (v := 2) hx hb dL_isSo_518 (by decide) ?_
                refine wk_iald (j := 2) hx hb hK hP h19 wk_c19 (by decide) (by decide) dL_isSo_519 ?_
                refine lv_icmp_ne (tgt := 540) hx hb dL_isSo_520 (by decide) (fun g22 => ?_) (fun g22 => ?_)
                · have h := wk_n g22 h
                  exact w_L_isSo_540 CX RT h19 h (lv_sub hl [0, 1, 3, 4, 5] rfl) hP hS
                · have h := wk_p g22 h
                  refine lv_aload_n hx hb dL_isSo_523 rfl (lv_at hl 0 rfl) ?_
                  refine lv_bipush (v := 6) hx hb dL_isSo_524 (by decide) ?_
                  obtain ⟨r23, M24, er23, h⟩ := wk_cl_e h
                  refine wk_cVi (As := [.int 6]) (rest := []) ⟨hx, hb, hml, hown, hts⟩ (m_X3_count l hI hL er23) (cwV 1 hts gL_isSo_X3_count rfl rfl rfl (by decide +kernel) ⟨Nat.le_trans (by decide) hfr, Nat.le_trans (by decide) hlo⟩) hK hP hS hA (wk_l9 hL 9 (by decide) (by decide)) wk_c9 rfl rfl hl.1 (lv_room (Nat.le_of_ble_eq_true rfl)) hcs dL_isSo_526 (fun H locs hP hS => ?_)
                  refine lv_aload hx hb dL_isSo_529 (lv_at hl 2 rfl) ?_
                  refine lv_iconst (v := 3) hx hb dL_isSo_531 (by decide) ?_
                  refine wk_iald (j := 3) hx hb hK hP h19 wk_c19 (by decide) (by decide) dL_isSo_532 ?_
                  refine lv_icmp_ne (tgt := 540) hx hb dL_isSo_533 (by decide) (fun g25 => ?_) (fun g25 => ?_)
                  · have h := wk_n g25 h
                    exact w_L_isSo_540 CX RT h19 h (lv_sub hl [0, 1, 3, 4, 5] rfl) hP hS
                  · have h := wk_p g25 h
                    refine lv_iconst (v := 1) hx hb dL_isSo_536 (by decide) ?_
                    refine lv_goto (tgt := 541) hx hb dL_isSo_537 (by decide) ?_
                    exact w_L_isSo_541 CX RT h19 h (lv_sub hl [0, 1, 3, 4, 5] rfl) hP hS
set_option maxRecDepth 100000 in
set_option maxHeartbeats 4000000 in
theorem w_L_isSo_299 {r0 : Int32} (CX : wk_X p l e R s m args below meth c cells slots Q cL_isSo 14 RL wsL_isSo D y B Lk A 4 102) (RT : wk_Rz p l e R s m args below meth c cells slots Q cL_isSo D y B Lk A r0 MM) (h19 : Lk 19 0 0) : ∀ (n : Nat) (v7 : Int32) (v8 : Int32) (v9 : Int32) (v10 : Int32) (v11 : Int32) (M : wk_T) (H : Heap) (locs : List Loc) (ls : Array Slot), f_L_isSo_299 n v7 v8 v9 v10 v11 M = some (r0, MM) → lv_has ls 14 [(0, .ref (B 9 0 0)), (1, .ref (B 14 0 0)), (2, .ref (B 15 0 0)), (6, .ref (B 19 0 0)), (7, .int v7), (8, .int v8), (9, .int v9), (10, .int v10), (11, .int v11)] → wk_H D y B Lk M H → va_S A s.heap H locs → W p l e R s m args below meth c H locs cells slots Q (F0 m 299 ls []) := by
  obtain ⟨⟨hx, hb, hml, hown, hts⟩, hK, hI, hL, hA, hfr, hlo, hcs⟩ := id CX
  intro n
  induction n with
  | zero =>
    intro v7 v8 v9 v10 v11 M H locs ls h
    exact absurd h (by rw [f_L_isSo_299]; exact fun z => nomatch z)
  | succ n ih =>
    intro v7 v8 v9 v10 v11 M H locs ls h hl hP hS
    rw [f_L_isSo_299] at h
    refine lv_iload hx hb dL_isSo_299 (lv_at hl 8 rfl) ?_
    refine lv_iconst (v := 2) hx hb dL_isSo_301 (by decide) ?_
    refine lv_icmp_ge (tgt := 437) hx hb dL_isSo_302 (by decide) (fun g1 => ?_) (fun g1 => ?_)
    · have h := wk_p g1 h
      exact w_L_isSo_437 CX RT h19 h (lv_sub hl [0, 1, 3, 4, 5, 6, 7] rfl) hP hS
    · have h := wk_n g1 h
      refine lv_iload hx hb dL_isSo_305 (lv_at hl 7 rfl) ?_
      refine lv_if_eq (tgt := 437) hx hb dL_isSo_307 (by decide) (fun g2 => ?_) (fun g2 => ?_)
      · have h := wk_p g2 h
        exact w_L_isSo_437 CX RT h19 h (lv_sub hl [0, 1, 3, 4, 5, 6, 7] rfl) hP hS
      · have h := wk_n g2 h
        refine lv_iconst (v := 0) hx hb dL_isSo_310 (by decide) ?_
        refine lv_istore (lv' := [(12, .int 0), (0, .ref (B 9 0 0)), (1, .ref (B 14 0 0)), (2, .ref (B 15 0 0)), (6, .ref (B 19 0 0)), (7, .int v7), (8, .int v8), (9, .int v9), (10, .int v10), (11, .int v11)]) hx hb dL_isSo_311 hl (by decide) rfl (fun ls hl => ?_)
        refine lv_iconst (v := 0) hx hb dL_isSo_313 (by decide) ?_
        refine lv_istore (lv' := [(13, .int 0), (12, .int 0), (0, .ref (B 9 0 0)), (1, .ref (B 14 0 0)), (2, .ref (B 15 0 0)), (6, .ref (B 19 0 0)), (7, .int v7), (8, .int v8), (9, .int v9), (10, .int v10), (11, .int v11)]) hx hb dL_isSo_314 hl (by decide) rfl (fun ls hl => ?_)
        exact w_L_isSo_316 CX RT h19 ih wk_fuel _ _ _ _ _ _ _ _ _ _ _ h (lv_sub hl [2, 3, 4, 5, 6, 7, 8, 9, 10, 1, 0] rfl) hP hS
set_option maxRecDepth 100000 in
set_option maxHeartbeats 4000000 in
theorem w_L_isSo_296 {r0 : Int32} (CX : wk_X p l e R s m args below meth c cells slots Q cL_isSo 14 RL wsL_isSo D y B Lk A 4 102) (RT : wk_Rz p l e R s m args below meth c cells slots Q cL_isSo D y B Lk A r0 MM) (h19 : Lk 19 0 0) {v7 : Int32} {v8 : Int32} {v9 : Int32} {v10 : Int32} {M : wk_T} {H : Heap} {locs : List Loc} {ls : Array Slot} (h : f_L_isSo_296 v7 v8 v9 v10 M = some (r0, MM)) (hl : lv_has ls 14 [(0, .ref (B 9 0 0)), (1, .ref (B 14 0 0)), (2, .ref (B 15 0 0)), (6, .ref (B 19 0 0)), (7, .int v7), (8, .int v8), (9, .int v9), (10, .int v10)]) (hP : wk_H D y B Lk M H) (hS : va_S A s.heap H locs) : W p l e R s m args below meth c H locs cells slots Q (F0 m 296 ls []) := by
  obtain ⟨⟨hx, hb, hml, hown, hts⟩, hK, hI, hL, hA, hfr, hlo, hcs⟩ := id CX
  unfold f_L_isSo_296 at h
  refine lv_iconst (v := 0) hx hb dL_isSo_296 (by decide) ?_
  refine lv_istore (lv' := [(11, .int 0), (0, .ref (B 9 0 0)), (1, .ref (B 14 0 0)), (2, .ref (B 15 0 0)), (6, .ref (B 19 0 0)), (7, .int v7), (8, .int v8), (9, .int v9), (10, .int v10)]) hx hb dL_isSo_297 hl (by decide) rfl (fun ls hl => ?_)
  exact w_L_isSo_299 CX RT h19 wk_fuel _ _ _ _ _ _ _ _ _ h (lv_sub hl [1, 2, 3, 4, 5, 6, 7, 8, 0] rfl) hP hS
set_option maxRecDepth 100000 in
set_option maxHeartbeats 4000000 in
theorem w_L_isSo_171 {r0 : Int32} (CX : wk_X p l e R s m args below meth c cells slots Q cL_isSo 14 RL wsL_isSo D y B Lk A 4 102) (RT : wk_Rz p l e R s m args below meth c cells slots Q cL_isSo D y B Lk A r0 MM) (h19 : Lk 19 0 0) : ∀ (n : Nat) (v7 : Int32) (v8 : Int32) (v9 : Int32) (v10 : Int32) (v11 : Int32) (M : wk_T) (H : Heap) (locs : List Loc) (ls : Array Slot), f_L_isSo_171 n v7 v8 v9 v10 v11 M = some (r0, MM) → lv_has ls 14 [(0, .ref (B 9 0 0)), (1, .ref (B 14 0 0)), (2, .ref (B 15 0 0)), (5, .ref (B 18 0 0)), (6, .ref (B 19 0 0)), (7, .int v7), (8, .int v8), (9, .int v9), (10, .int v10), (11, .int v11)] → wk_H D y B Lk M H → va_S A s.heap H locs → W p l e R s m args below meth c H locs cells slots Q (F0 m 171 ls []) := by
  obtain ⟨⟨hx, hb, hml, hown, hts⟩, hK, hI, hL, hA, hfr, hlo, hcs⟩ := id CX
  intro n
  induction n with
  | zero =>
    intro v7 v8 v9 v10 v11 M H locs ls h
    exact absurd h (by rw [f_L_isSo_171]; exact fun z => nomatch z)
  | succ n ih =>
    intro v7 v8 v9 v10 v11 M H locs ls h hl hP hS
    rw [f_L_isSo_171] at h
    refine lv_iload hx hb dL_isSo_171 (lv_at hl 9 rfl) ?_
    refine lv_aload_n hx hb dL_isSo_173 rfl (lv_at hl 1 rfl) ?_
    refine lv_iconst (v := 1) hx hb dL_isSo_174 (by decide) ?_
    refine wk_iald (j := 1) hx hb hK hP (wk_lL hL 14 (by decide) (by decide)) wk_c14 (by decide) (by decide) dL_isSo_175 ?_
    refine lv_icmp_ge (tgt := 296) hx hb dL_isSo_176 (by decide) (fun g1 => ?_) (fun g1 => ?_)
    · have h := wk_p g1 h
      exact w_L_isSo_296 CX RT h19 h (lv_sub hl [0, 1, 2, 4, 5, 6, 7, 8] rfl) hP hS
    · have h := wk_n g1 h
      refine lv_iload hx hb dL_isSo_179 (lv_at hl 8 rfl) ?_
      refine lv_if_eq (tgt := 296) hx hb dL_isSo_181 (by decide) (fun g2 => ?_) (fun g2 => ?_)
      · have h := wk_p g2 h
        exact w_L_isSo_296 CX RT h19 h (lv_sub hl [0, 1, 2, 4, 5, 6, 7, 8] rfl) hP hS
      · have h := wk_n g2 h
        refine lv_aload_n hx hb dL_isSo_184 rfl (lv_at hl 0 rfl) ?_
        refine lv_iload hx hb dL_isSo_185 (lv_at hl 9 rfl) ?_
        refine lv_iconst (v := 0) hx hb dL_isSo_187 (by decide) ?_
        obtain ⟨r3, M4, er3, h⟩ := wk_cl_e h
        refine wk_cVi (As := [.int v11, .int 0]) (rest := []) ⟨hx, hb, hml, hown, hts⟩ (m_X3_useOf l hI hL er3) (cwV 2 hts gL_isSo_X3_useOf rfl rfl rfl (by decide +kernel) ⟨Nat.le_trans (by decide) hfr, Nat.le_trans (by decide) hlo⟩) hK hP hS hA (wk_l9 hL 9 (by decide) (by decide)) wk_c9 rfl rfl hl.1 (lv_room (Nat.le_of_ble_eq_true rfl)) hcs dL_isSo_188 (fun H locs hP hS => ?_)
        refine lv_aload hx hb dL_isSo_191 (lv_at hl 3 rfl) ?_
        refine lv_iconst (v := 3) hx hb dL_isSo_193 (by decide) ?_
        refine lv_iload hx hb dL_isSo_194 (lv_at hl 9 rfl) ?_
        refine lv_imul hx hb dL_isSo_196 ?_
        obtain ⟨g5, h⟩ := wk_gd_e h
        refine wk_iald (j := (3 * v11).toNatClampNeg) hx hb hK hP (wk_lL hL 18 (by decide) (by decide)) wk_c18 g5 rfl dL_isSo_197 ?_
        refine lv_icmp_ne (tgt := 287) hx hb dL_isSo_198 (by decide) (fun g6 => ?_) (fun g6 => ?_)
        · have h := wk_n g6 h
          exact w_L_isSo_287 CX RT h19 ih h (lv_sub hl [0, 1, 2, 3, 4, 5, 6, 7, 9] rfl) hP hS
        · have h := wk_p g6 h
          refine lv_aload_n hx hb dL_isSo_201 rfl (lv_at hl 0 rfl) ?_
          refine lv_iload hx hb dL_isSo_202 (lv_at hl 9 rfl) ?_
          refine lv_iconst (v := 1) hx hb dL_isSo_204 (by decide) ?_
          obtain ⟨r7, M8, er7, h⟩ := wk_cl_e h
          refine wk_cVi (As := [.int v11, .int 1]) (rest := []) ⟨hx, hb, hml, hown, hts⟩ (m_X3_useOf l hI hL er7) (cwV 2 hts gL_isSo_X3_useOf rfl rfl rfl (by decide +kernel) ⟨Nat.le_trans (by decide) hfr, Nat.le_trans (by decide) hlo⟩) hK hP hS hA (wk_l9 hL 9 (by decide) (by decide)) wk_c9 rfl rfl hl.1 (lv_room (Nat.le_of_ble_eq_true rfl)) hcs dL_isSo_205 (fun H locs hP hS => ?_)
          refine lv_aload hx hb dL_isSo_208 (lv_at hl 3 rfl) ?_
          refine lv_iconst (v := 3) hx hb dL_isSo_210 (by decide) ?_
          refine lv_iload hx hb dL_isSo_211 (lv_at hl 9 rfl) ?_
          refine lv_imul hx hb dL_isSo_213 ?_
          refine lv_iconst (v := 1) hx hb dL_isSo_214 (by decide) ?_
          refine lv_iadd hx hb dL_isSo_215 ?_
          obtain ⟨g9, h⟩ := wk_gd_e h
          refine wk_iald (j := ((3 * v11) + 1).toNatClampNeg) hx hb hK hP (wk_lL hL 18 (by decide) (by decide)) wk_c18 g9 rfl dL_isSo_216 ?_
          refine lv_icmp_ne (tgt := 287) hx hb dL_isSo_217 (by decide) (fun g10 => ?_) (fun g10 => ?_)
          · have h := wk_n g10 h
            exact w_L_isSo_287 CX RT h19 ih h (lv_sub hl [0, 1, 2, 3, 4, 5, 6, 7, 9] rfl) hP hS
          · have h := wk_p g10 h
            refine lv_aload_n hx hb dL_isSo_220 rfl (lv_at hl 0 rfl) ?_
            refine lv_iload hx hb dL_isSo_221 (lv_at hl 9 rfl) ?_
            refine lv_iconst (v := 2) hx hb dL_isSo_223 (by decide) ?_
            obtain ⟨r11, M12, er11, h⟩ := wk_cl_e h
            refine wk_cVi (As := [.int v11, .int 2]) (rest := []) ⟨hx, hb, hml, hown, hts⟩ (m_X3_useOf l hI hL er11) (cwV 2 hts gL_isSo_X3_useOf rfl rfl rfl (by decide +kernel) ⟨Nat.le_trans (by decide) hfr, Nat.le_trans (by decide) hlo⟩) hK hP hS hA (wk_l9 hL 9 (by decide) (by decide)) wk_c9 rfl rfl hl.1 (lv_room (Nat.le_of_ble_eq_true rfl)) hcs dL_isSo_224 (fun H locs hP hS => ?_)
            refine lv_aload hx hb dL_isSo_227 (lv_at hl 3 rfl) ?_
            refine lv_iconst (v := 3) hx hb dL_isSo_229 (by decide) ?_
            refine lv_iload hx hb dL_isSo_230 (lv_at hl 9 rfl) ?_
            refine lv_imul hx hb dL_isSo_232 ?_
            refine lv_iconst (v := 2) hx hb dL_isSo_233 (by decide) ?_
            refine lv_iadd hx hb dL_isSo_234 ?_
            obtain ⟨g13, h⟩ := wk_gd_e h
            refine wk_iald (j := ((3 * v11) + 2).toNatClampNeg) hx hb hK hP (wk_lL hL 18 (by decide) (by decide)) wk_c18 g13 rfl dL_isSo_235 ?_
            refine lv_icmp_ne (tgt := 287) hx hb dL_isSo_236 (by decide) (fun g14 => ?_) (fun g14 => ?_)
            · have h := wk_n g14 h
              exact w_L_isSo_287 CX RT h19 ih h (lv_sub hl [0, 1, 2, 3, 4, 5, 6, 7, 9] rfl) hP hS
            · have h := wk_p g14 h
              refine lv_aload_n hx hb dL_isSo_239 rfl (lv_at hl 0 rfl) ?_
              refine lv_iload hx hb dL_isSo_240 (lv_at hl 9 rfl) ?_
              refine lv_iconst (v := 3) hx hb dL_isSo_242 (by decide) ?_
              obtain ⟨r15, M16, er15, h⟩ := wk_cl_e h
              refine wk_cVi (As := [.int v11, .int 3]) (rest := []) ⟨hx, hb, hml, hown, hts⟩ (m_X3_useOf l hI hL er15) (cwV 2 hts gL_isSo_X3_useOf rfl rfl rfl (by decide +kernel) ⟨Nat.le_trans (by decide) hfr, Nat.le_trans (by decide) hlo⟩) hK hP hS hA (wk_l9 hL 9 (by decide) (by decide)) wk_c9 rfl rfl hl.1 (lv_room (Nat.le_of_ble_eq_true rfl)) hcs dL_isSo_243 (fun H locs hP hS => ?_)
              refine lv_aload_n hx hb dL_isSo_246 rfl (lv_at hl 1 rfl) ?_
              refine lv_aload hx hb dL_isSo_247 (lv_at hl 3 rfl) ?_
              refine lv_aload hx hb dL_isSo_249 (lv_at hl 3 rfl) ?_
              refine lv_iconst (v := 3) hx hb dL_isSo_251 (by decide) ?_
              refine lv_iload hx hb dL_isSo_252 (lv_at hl 9 rfl) ?_
              refine lv_imul hx hb dL_isSo_254 ?_
              obtain ⟨g17, h⟩ := wk_gd_e h
              refine wk_iald (j := (3 * v11).toNatClampNeg) hx hb hK hP (wk_lL hL 18 (by decide) (by decide)) wk_c18 g17 rfl dL_isSo_255 ?_
              obtain ⟨r18, M19, er18, h⟩ := wk_cl_e h
              refine wk_cSi (As := [.ref (B 14 0 0), .ref (B 18 0 0), .int (M16 18 0 0 ((3 * v11).toNatClampNeg))]) (rest := [.int r15]) ⟨hx, hb, hml, hown, hts⟩ (m_L_first l hI hL er18) (va_cwS 3 hts gL_isSo_L_first rfl rfl rfl (by decide +kernel) ⟨Nat.le_trans (by decide) hfr, Nat.le_trans (by decide) hlo⟩) hK hP hS hA rfl hl.1 (lv_room (Nat.le_of_ble_eq_true rfl)) hcs dL_isSo_256 (fun H locs hP hS => ?_)
              refine lv_iload hx hb dL_isSo_259 (lv_at hl 9 rfl) ?_
              refine lv_icmp_ne (tgt := 268) hx hb dL_isSo_261 (by decide) (fun g20 => ?_) (fun g20 => ?_)
              · have h := wk_n g20 h
                refine lv_iconst (v := 0) hx hb dL_isSo_268 (by decide) ?_
                exact w_L_isSo_269 CX RT h19 ih h (lv_sub hl [0, 1, 2, 3, 4, 5, 6, 7, 9] rfl) hP hS
              · have h := wk_p g20 h
                refine lv_iconst (v := 1) hx hb dL_isSo_264 (by decide) ?_
                refine lv_goto (tgt := 269) hx hb dL_isSo_265 (by decide) ?_
                exact w_L_isSo_269 CX RT h19 ih h (lv_sub hl [0, 1, 2, 3, 4, 5, 6, 7, 9] rfl) hP hS
set_option maxRecDepth 100000 in
set_option maxHeartbeats 4000000 in
theorem w_L_isSo_168 {r0 : Int32} (CX : wk_X p l e R s m args below meth c cells slots Q cL_isSo 14 RL wsL_isSo D y B Lk A 4 102) (RT : wk_Rz p l e R s m args below meth c cells slots Q cL_isSo D y B Lk A r0 MM) (h19 : Lk 19 0 0) {v7 : Int32} {v8 : Int32} {v9 : Int32} {v10 : Int32} {M : wk_T} {H : Heap} {locs : List Loc} {ls : Array Slot} (h : f_L_isSo_168 v7 v8 v9 v10 M = some (r0, MM)) (hl : lv_has ls 14 [(0, .ref (B 9 0 0)), (1, .ref (B 14 0 0)), (2, .ref (B 15 0 0)), (5, .ref (B 18 0 0)), (6, .ref (B 19 0 0)), (7, .int v7), (8, .int v8), (9, .int v9), (10, .int v10)]) (hP : wk_H D y B Lk M H) (hS : va_S A s.heap H locs) : W p l e R s m args below meth c H locs cells slots Q (F0 m 168 ls []) := by
  obtain ⟨⟨hx, hb, hml, hown, hts⟩, hK, hI, hL, hA, hfr, hlo, hcs⟩ := id CX
  unfold f_L_isSo_168 at h
  refine lv_iconst (v := 0) hx hb dL_isSo_168 (by decide) ?_
  refine lv_istore (lv' := [(11, .int 0), (0, .ref (B 9 0 0)), (1, .ref (B 14 0 0)), (2, .ref (B 15 0 0)), (5, .ref (B 18 0 0)), (6, .ref (B 19 0 0)), (7, .int v7), (8, .int v8), (9, .int v9), (10, .int v10)]) hx hb dL_isSo_169 hl (by decide) rfl (fun ls hl => ?_)
  exact w_L_isSo_171 CX RT h19 wk_fuel _ _ _ _ _ _ _ _ _ h (lv_sub hl [1, 2, 3, 4, 5, 6, 7, 8, 9, 0] rfl) hP hS
set_option maxRecDepth 100000 in
set_option maxHeartbeats 4000000 in
theorem w_L_isSo_20 {r0 : Int32} (CX : wk_X p l e R s m args below meth c cells slots Q cL_isSo 14 RL wsL_isSo D y B Lk A 4 102) (RT : wk_Rz p l e R s m args below meth c cells slots Q cL_isSo D y B Lk A r0 MM) (h19 : Lk 19 0 0) : ∀ (n : Nat) (v7 : Int32) (v8 : Int32) (v9 : Int32) (v10 : Int32) (v11 : Int32) (M : wk_T) (H : Heap) (locs : List Loc) (ls : Array Slot), f_L_isSo_20 n v7 v8 v9 v10 v11 M = some (r0, MM) → lv_has ls 14 [(0, .ref (B 9 0 0)), (1, .ref (B 14 0 0)), (2, .ref (B 15 0 0)), (3, .ref (B 16 0 0)), (4, .ref (B 17 0 0)), (5, .ref (B 18 0 0)), (6, .ref (B 19 0 0)), (7, .int v7), (8, .int v8), (9, .int v9), (10, .int v10), (11, .int v11)] → wk_H D y B Lk M H → va_S A s.heap H locs → W p l e R s m args below meth c H locs cells slots Q (F0 m 20 ls []) := by
  obtain ⟨⟨hx, hb, hml, hown, hts⟩, hK, hI, hL, hA, hfr, hlo, hcs⟩ := id CX
  intro n
  induction n with
  | zero =>
    intro v7 v8 v9 v10 v11 M H locs ls h
    exact absurd h (by rw [f_L_isSo_20]; exact fun z => nomatch z)
  | succ n ih =>
    intro v7 v8 v9 v10 v11 M H locs ls h hl hP hS
    rw [f_L_isSo_20] at h
    refine lv_iload hx hb dL_isSo_20 (lv_at hl 11 rfl) ?_
    refine lv_aload_n hx hb dL_isSo_22 rfl (lv_at hl 1 rfl) ?_
    refine lv_iconst (v := 0) hx hb dL_isSo_23 (by decide) ?_
    refine wk_iald (j := 0) hx hb hK hP (wk_lL hL 14 (by decide) (by decide)) wk_c14 (by decide) (by decide) dL_isSo_24 ?_
    refine lv_icmp_ge (tgt := 168) hx hb dL_isSo_25 (by decide) (fun g1 => ?_) (fun g1 => ?_)
    · have h := wk_p g1 h
      exact w_L_isSo_168 CX RT h19 h (lv_sub hl [0, 1, 2, 5, 6, 7, 8, 9, 10] rfl) hP hS
    · have h := wk_n g1 h
      refine lv_iload hx hb dL_isSo_28 (lv_at hl 10 rfl) ?_
      refine lv_if_eq (tgt := 168) hx hb dL_isSo_30 (by decide) (fun g2 => ?_) (fun g2 => ?_)
      · have h := wk_p g2 h
        exact w_L_isSo_168 CX RT h19 h (lv_sub hl [0, 1, 2, 5, 6, 7, 8, 9, 10] rfl) hP hS
      · have h := wk_n g2 h
        refine lv_aload hx hb dL_isSo_33 (lv_at hl 6 rfl) ?_
        refine lv_aload_n hx hb dL_isSo_35 rfl (lv_at hl 3 rfl) ?_
        refine lv_bipush (v := 8) hx hb dL_isSo_36 (by decide) ?_
        refine lv_iload hx hb dL_isSo_38 (lv_at hl 11 rfl) ?_
        refine lv_imul hx hb dL_isSo_40 ?_
        obtain ⟨g3, h⟩ := wk_gd_e h
        refine wk_iald (j := (8 * v11).toNatClampNeg) hx hb hK hP (wk_lL hL 16 (by decide) (by decide)) wk_c16 g3 rfl dL_isSo_41 ?_
        refine lv_dup2_11 hx hb dL_isSo_42 rfl rfl ?_
        obtain ⟨g4, h⟩ := wk_gd_e h
        refine wk_iald (j := (M 16 0 0 ((8 * v11).toNatClampNeg)).toNatClampNeg) hx hb hK hP h19 wk_c19 g4 rfl dL_isSo_43 ?_
        refine lv_iconst (v := 1) hx hb dL_isSo_44 (by decide) ?_
        refine lv_iadd hx hb dL_isSo_45 ?_
        obtain ⟨g5, h⟩ := wk_gd_e h
        obtain ⟨M6, eM6, h⟩ := wk_mu_e h
        refine wk_iast (j := (M 16 0 0 ((8 * v11).toNatClampNeg)).toNatClampNeg) hx hb hK hP hI hS hA h19 wk_c19 g5 rfl (by rfl) dL_isSo_46 (fun H locs hP hS => ?_)
        rw [eM6] at hP
        refine lv_iload hx hb dL_isSo_47 (lv_at hl 7 rfl) ?_
        refine lv_aload hx hb dL_isSo_49 (lv_at hl 4 rfl) ?_
        refine lv_iconst (v := 4) hx hb dL_isSo_51 (by decide) ?_
        refine lv_iload hx hb dL_isSo_52 (lv_at hl 11 rfl) ?_
        refine lv_imul hx hb dL_isSo_54 ?_
        obtain ⟨g7, h⟩ := wk_gd_e h
        refine wk_iald (j := (4 * v11).toNatClampNeg) hx hb hK hP (wk_lL hL 17 (by decide) (by decide)) wk_c17 g7 rfl dL_isSo_55 ?_
        refine lv_aload hx hb dL_isSo_56 (lv_at hl 4 rfl) ?_
        refine lv_iconst (v := 4) hx hb dL_isSo_58 (by decide) ?_
        refine lv_iload hx hb dL_isSo_59 (lv_at hl 11 rfl) ?_
        refine lv_imul hx hb dL_isSo_61 ?_
        refine lv_iconst (v := 1) hx hb dL_isSo_62 (by decide) ?_
        refine lv_iadd hx hb dL_isSo_63 ?_
        obtain ⟨g8, h⟩ := wk_gd_e h
        refine wk_iald (j := ((4 * v11) + 1).toNatClampNeg) hx hb hK hP (wk_lL hL 17 (by decide) (by decide)) wk_c17 g8 rfl dL_isSo_64 ?_
        refine lv_iadd hx hb dL_isSo_65 ?_
        refine lv_aload hx hb dL_isSo_66 (lv_at hl 4 rfl) ?_
        refine lv_iconst (v := 4) hx hb dL_isSo_68 (by decide) ?_
        refine lv_iload hx hb dL_isSo_69 (lv_at hl 11 rfl) ?_
        refine lv_imul hx hb dL_isSo_71 ?_
        refine lv_iconst (v := 2) hx hb dL_isSo_72 (by decide) ?_
        refine lv_iadd hx hb dL_isSo_73 ?_
        obtain ⟨g9, h⟩ := wk_gd_e h
        refine wk_iald (j := ((4 * v11) + 2).toNatClampNeg) hx hb hK hP (wk_lL hL 17 (by decide) (by decide)) wk_c17 g9 rfl dL_isSo_74 ?_
        refine lv_iadd hx hb dL_isSo_75 ?_
        refine lv_aload hx hb dL_isSo_76 (lv_at hl 4 rfl) ?_
        refine lv_iconst (v := 4) hx hb dL_isSo_78 (by decide) ?_
        refine lv_iload hx hb dL_isSo_79 (lv_at hl 11 rfl) ?_
        refine lv_imul hx hb dL_isSo_81 ?_
        refine lv_iconst (v := 3) hx hb dL_isSo_82 (by decide) ?_
        refine lv_iadd hx hb dL_isSo_83 ?_
        obtain ⟨g10, h⟩ := wk_gd_e h
        refine wk_iald (j := ((4 * v11) + 3).toNatClampNeg) hx hb hK hP (wk_lL hL 17 (by decide) (by decide)) wk_c17 g10 rfl dL_isSo_84 ?_
        refine lv_iadd hx hb dL_isSo_85 ?_
        refine lv_iadd hx hb dL_isSo_86 ?_
        obtain ⟨x11, ex11, h⟩ := wk_lt_e h
        refine wk_topi ex11 ?_
        refine lv_istore (lv' := [(7, .int x11), (0, .ref (B 9 0 0)), (1, .ref (B 14 0 0)), (2, .ref (B 15 0 0)), (3, .ref (B 16 0 0)), (4, .ref (B 17 0 0)), (5, .ref (B 18 0 0)), (6, .ref (B 19 0 0)), (8, .int v8), (9, .int v9), (10, .int v10), (11, .int v11)]) hx hb dL_isSo_87 hl (by decide) rfl (fun ls hl => ?_)
        refine lv_iload hx hb dL_isSo_89 (lv_at hl 8 rfl) ?_
        refine lv_aload_n hx hb dL_isSo_91 rfl (lv_at hl 4 rfl) ?_
        refine lv_bipush (v := 8) hx hb dL_isSo_92 (by decide) ?_
        refine lv_iload hx hb dL_isSo_94 (lv_at hl 11 rfl) ?_
        refine lv_imul hx hb dL_isSo_96 ?_
        refine lv_iconst (v := 5) hx hb dL_isSo_97 (by decide) ?_
        refine lv_iadd hx hb dL_isSo_98 ?_
        obtain ⟨g12, h⟩ := wk_gd_e h
        refine wk_iald (j := ((8 * v11) + 5).toNatClampNeg) hx hb hK hP (wk_lL hL 16 (by decide) (by decide)) wk_c16 g12 rfl dL_isSo_99 ?_
        refine lv_iadd hx hb dL_isSo_100 ?_
        obtain ⟨x13, ex13, h⟩ := wk_lt_e h
        refine wk_topi ex13 ?_
        refine lv_istore (lv' := [(8, .int x13), (7, .int x11), (0, .ref (B 9 0 0)), (1, .ref (B 14 0 0)), (2, .ref (B 15 0 0)), (3, .ref (B 16 0 0)), (4, .ref (B 17 0 0)), (5, .ref (B 18 0 0)), (6, .ref (B 19 0 0)), (9, .int v9), (10, .int v10), (11, .int v11)]) hx hb dL_isSo_101 hl (by decide) rfl (fun ls hl => ?_)
        refine lv_iload hx hb dL_isSo_103 (lv_at hl 9 rfl) ?_
        refine lv_aload_n hx hb dL_isSo_105 rfl (lv_at hl 5 rfl) ?_
        refine lv_bipush (v := 8) hx hb dL_isSo_106 (by decide) ?_
        refine lv_iload hx hb dL_isSo_108 (lv_at hl 11 rfl) ?_
        refine lv_imul hx hb dL_isSo_110 ?_
        refine lv_bipush (v := 6) hx hb dL_isSo_111 (by decide) ?_
        refine lv_iadd hx hb dL_isSo_113 ?_
        obtain ⟨g14, h⟩ := wk_gd_e h
        refine wk_iald (j := ((8 * v11) + 6).toNatClampNeg) hx hb hK hP (wk_lL hL 16 (by decide) (by decide)) wk_c16 g14 rfl dL_isSo_114 ?_
        refine lv_iadd hx hb dL_isSo_115 ?_
        obtain ⟨x15, ex15, h⟩ := wk_lt_e h
        refine wk_topi ex15 ?_
        refine lv_istore (lv' := [(9, .int x15), (8, .int x13), (7, .int x11), (0, .ref (B 9 0 0)), (1, .ref (B 14 0 0)), (2, .ref (B 15 0 0)), (3, .ref (B 16 0 0)), (4, .ref (B 17 0 0)), (5, .ref (B 18 0 0)), (6, .ref (B 19 0 0)), (10, .int v10), (11, .int v11)]) hx hb dL_isSo_116 hl (by decide) rfl (fun ls hl => ?_)
        refine lv_aload_n hx hb dL_isSo_118 rfl (lv_at hl 3 rfl) ?_
        refine lv_aload_n hx hb dL_isSo_119 rfl (lv_at hl 4 rfl) ?_
        refine lv_aload_n hx hb dL_isSo_120 rfl (lv_at hl 5 rfl) ?_
        refine lv_aload_n hx hb dL_isSo_121 rfl (lv_at hl 6 rfl) ?_
        refine lv_aload hx hb dL_isSo_122 (lv_at hl 7 rfl) ?_
        refine lv_aload hx hb dL_isSo_124 (lv_at hl 8 rfl) ?_
        refine lv_iload hx hb dL_isSo_126 (lv_at hl 11 rfl) ?_
        obtain ⟨r16, M17, er16, h⟩ := wk_cl_e h
        refine wk_cSi (As := [.ref (B 9 0 0), .ref (B 14 0 0), .ref (B 15 0 0), .ref (B 16 0 0), .ref (B 17 0 0), .ref (B 18 0 0), .int v11]) (rest := []) ⟨hx, hb, hml, hown, hts⟩ (m_L_isRoom l hI hL er16) (va_cwS 7 hts gL_isSo_L_isRoom rfl rfl rfl (by decide +kernel) ⟨Nat.le_trans (by decide) hfr, Nat.le_trans (by decide) hlo⟩) hK hP hS hA rfl hl.1 (lv_room (Nat.le_of_ble_eq_true rfl)) hcs dL_isSo_128 (fun H locs hP hS => ?_)
        refine lv_if_eq (tgt := 159) hx hb dL_isSo_131 (by decide) (fun g18 => ?_) (fun g18 => ?_)
        · have h := wk_p g18 h
          exact w_L_isSo_159 CX RT h19 ih h (lv_sub hl [3, 4, 5, 6, 7, 8, 9, 2, 1, 0, 11] rfl) hP hS
        · have h := wk_n g18 h
          refine lv_aload_n hx hb dL_isSo_134 rfl (lv_at hl 3 rfl) ?_
          refine lv_iload hx hb dL_isSo_135 (lv_at hl 11 rfl) ?_
          refine lv_iconst (v := 1) hx hb dL_isSo_137 (by decide) ?_
          obtain ⟨r19, M20, er19, h⟩ := wk_cl_e h
          refine wk_cVi (As := [.int v11, .int 1]) (rest := []) ⟨hx, hb, hml, hown, hts⟩ (m_X3_roomOf l hI hL er19) (cwV 2 hts gL_isSo_X3_roomOf rfl rfl rfl (by decide +kernel) ⟨Nat.le_trans (by decide) hfr, Nat.le_trans (by decide) hlo⟩) hK hP hS hA (wk_l9 hL 9 (by decide) (by decide)) wk_c9 rfl rfl hl.1 (lv_room (Nat.le_of_ble_eq_true rfl)) hcs dL_isSo_138 (fun H locs hP hS => ?_)
          refine lv_if_eq (tgt := 155) hx hb dL_isSo_141 (by decide) (fun g21 => ?_) (fun g21 => ?_)
          · have h := wk_p g21 h
            exact w_L_isSo_155 CX RT h19 ih h (lv_sub hl [3, 4, 5, 6, 7, 8, 9, 2, 1, 0, 11] rfl) hP hS
          · have h := wk_n g21 h
            refine lv_aload_n hx hb dL_isSo_144 rfl (lv_at hl 3 rfl) ?_
            refine lv_iload hx hb dL_isSo_145 (lv_at hl 11 rfl) ?_
            refine lv_bipush (v := 11) hx hb dL_isSo_147 (by decide) ?_
            obtain ⟨r22, M23, er22, h⟩ := wk_cl_e h
            refine wk_cVi (As := [.int v11, .int 11]) (rest := []) ⟨hx, hb, hml, hown, hts⟩ (m_X3_roomOf l hI hL er22) (cwV 2 hts gL_isSo_X3_roomOf rfl rfl rfl (by decide +kernel) ⟨Nat.le_trans (by decide) hfr, Nat.le_trans (by decide) hlo⟩) hK hP hS hA (wk_l9 hL 9 (by decide) (by decide)) wk_c9 rfl rfl hl.1 (lv_room (Nat.le_of_ble_eq_true rfl)) hcs dL_isSo_149 (fun H locs hP hS => ?_)
            refine lv_if_le (tgt := 159) hx hb dL_isSo_152 (by decide) (fun g24 => ?_) (fun g24 => ?_)
            · have h := wk_p g24 h
              exact w_L_isSo_159 CX RT h19 ih h (lv_sub hl [3, 4, 5, 6, 7, 8, 9, 2, 1, 0, 11] rfl) hP hS
            · have h := wk_n g24 h
              exact w_L_isSo_155 CX RT h19 ih h (lv_sub hl [3, 4, 5, 6, 7, 8, 9, 2, 1, 0, 11] rfl) hP hS
set_option maxRecDepth 100000 in
set_option maxHeartbeats 4000000 in
theorem w_L_isSo_5 {r0 : Int32} (CX : wk_X p l e R s m args below meth c cells slots Q cL_isSo 14 RL wsL_isSo D y B Lk A 4 102) (RT : wk_Rz p l e R s m args below meth c cells slots Q cL_isSo D y B Lk A r0 MM) (h19 : Lk 19 0 0) {M : wk_T} {H : Heap} {locs : List Loc} {ls : Array Slot} (h : f_L_isSo M = some (r0, MM)) (hl : lv_has ls 14 [(0, .ref (B 9 0 0)), (1, .ref (B 14 0 0)), (2, .ref (B 15 0 0)), (3, .ref (B 16 0 0)), (4, .ref (B 17 0 0)), (5, .ref (B 18 0 0)), (6, .ref (B 19 0 0))]) (hP : wk_H D y B Lk M H) (hS : va_S A s.heap H locs) : W p l e R s m args below meth c H locs cells slots Q (F0 m 5 ls []) := by
  obtain ⟨⟨hx, hb, hml, hown, hts⟩, hK, hI, hL, hA, hfr, hlo, hcs⟩ := id CX
  unfold f_L_isSo at h
  refine lv_iconst (v := 0) hx hb dL_isSo_5 (by decide) ?_
  refine lv_istore (lv' := [(7, .int 0), (0, .ref (B 9 0 0)), (1, .ref (B 14 0 0)), (2, .ref (B 15 0 0)), (3, .ref (B 16 0 0)), (4, .ref (B 17 0 0)), (5, .ref (B 18 0 0)), (6, .ref (B 19 0 0))]) hx hb dL_isSo_6 hl (by decide) rfl (fun ls hl => ?_)
  refine lv_iconst (v := 0) hx hb dL_isSo_8 (by decide) ?_
  refine lv_istore (lv' := [(8, .int 0), (7, .int 0), (0, .ref (B 9 0 0)), (1, .ref (B 14 0 0)), (2, .ref (B 15 0 0)), (3, .ref (B 16 0 0)), (4, .ref (B 17 0 0)), (5, .ref (B 18 0 0)), (6, .ref (B 19 0 0))]) hx hb dL_isSo_9 hl (by decide) rfl (fun ls hl => ?_)
  refine lv_iconst (v := 0) hx hb dL_isSo_11 (by decide) ?_
  refine lv_istore (lv' := [(9, .int 0), (8, .int 0), (7, .int 0), (0, .ref (B 9 0 0)), (1, .ref (B 14 0 0)), (2, .ref (B 15 0 0)), (3, .ref (B 16 0 0)), (4, .ref (B 17 0 0)), (5, .ref (B 18 0 0)), (6, .ref (B 19 0 0))]) hx hb dL_isSo_12 hl (by decide) rfl (fun ls hl => ?_)
  refine lv_iconst (v := 1) hx hb dL_isSo_14 (by decide) ?_
  refine lv_istore (lv' := [(10, .int 1), (9, .int 0), (8, .int 0), (7, .int 0), (0, .ref (B 9 0 0)), (1, .ref (B 14 0 0)), (2, .ref (B 15 0 0)), (3, .ref (B 16 0 0)), (4, .ref (B 17 0 0)), (5, .ref (B 18 0 0)), (6, .ref (B 19 0 0))]) hx hb dL_isSo_15 hl (by decide) rfl (fun ls hl => ?_)
  refine lv_iconst (v := 0) hx hb dL_isSo_17 (by decide) ?_
  refine lv_istore (lv' := [(11, .int 0), (10, .int 1), (9, .int 0), (8, .int 0), (7, .int 0), (0, .ref (B 9 0 0)), (1, .ref (B 14 0 0)), (2, .ref (B 15 0 0)), (3, .ref (B 16 0 0)), (4, .ref (B 17 0 0)), (5, .ref (B 18 0 0)), (6, .ref (B 19 0 0))]) hx hb dL_isSo_18 hl (by decide) rfl (fun ls hl => ?_)
  exact w_L_isSo_20 CX RT h19 wk_fuel _ _ _ _ _ _ _ _ _ h (lv_sub hl [5, 6, 7, 8, 9, 10, 11, 4, 3, 2, 1, 0] rfl) hP hS
end WP21
