/-! walks by program: L_isRoom -/
section WP20
variable {p : Program} {l : Launch} {e : Env} {R : Room} {s : State} {m : MethodId} {args : Array Value} {below : List Frame} {meth : Method} {c : Code} {cells slots : Nat} {Q : State → Prop}
variable {D : va_G} {y : Nat → ClassId} {B : Nat → Nat → Nat → Nat} {Lk : Nat → Nat → Nat → Prop} {A : Nat → Prop} {MM : wk_T}
def f_L_isRoom_36 (k9 : Int32 → Int32 → Int32 → Int32 → wk_T → Option (Int32 × wk_T)) (v6 : Int32) (v8 : Int32) (v9 : Int32) (s0 : Int32) (s1 : Int32) (M : wk_T) : Option (Int32 × wk_T) := wk_lt ((s0 + s1)) (fun x1 => wk_lt (v9 + 1) (fun x2 => (k9 v6 x1 v8 x2 M)))
def f_L_isRoom_114 (k48 : Int32 → Int32 → Int32 → Int32 → wk_T → Option (Int32 × wk_T)) (v6 : Int32) (v7 : Int32) (v9 : Int32) (s0 : Int32) (M : wk_T) : Option (Int32 × wk_T) := wk_lt (v9 + 1) (fun x1 => (k48 v6 v7 s0 x1 M))
def f_L_isRoom_109 (k48 : Int32 → Int32 → Int32 → Int32 → wk_T → Option (Int32 × wk_T)) (v6 : Int32) (v7 : Int32) (v9 : Int32) (M : wk_T) : Option (Int32 × wk_T) := (f_L_isRoom_114 k48 v6 v7 v9 1 M)
def f_L_isRoom_113 (k48 : Int32 → Int32 → Int32 → Int32 → wk_T → Option (Int32 × wk_T)) (v6 : Int32) (v7 : Int32) (v9 : Int32) (M : wk_T) : Option (Int32 × wk_T) := (f_L_isRoom_114 k48 v6 v7 v9 0 M)
def f_L_isRoom_495 (v6 : Int32) (s0 : Int32) (s1 : Int32) (M : wk_T) : Option (Int32 × wk_T) := (if s0 = s1 then wk_cl (f_X3_roomOf v6 14 M) (fun r2 M3 => (if r2 = (-1) then wk_cl (f_X3_costOf v6 5 M3) (fun r5 M6 => (if r5 = (-1) then wk_cl (f_X3_energy v6 4 M6) (fun r8 M9 => wk_gd (¬ ((4 * v6) < 0 ∨ 48 ≤ (4 * v6).toNatClampNeg)) (wk_gd (¬ (((4 * v6) + 1) < 0 ∨ 48 ≤ ((4 * v6) + 1).toNatClampNeg)) (wk_gd (¬ (((4 * v6) + 2) < 0 ∨ 48 ≤ ((4 * v6) + 2).toNatClampNeg)) (wk_gd (¬ (((4 * v6) + 3) < 0 ∨ 48 ≤ ((4 * v6) + 3).toNatClampNeg)) ((if r8 = ((((M9 17 0 0 ((4 * v6).toNatClampNeg)) + (M9 17 0 0 (((4 * v6) + 1).toNatClampNeg))) + (M9 17 0 0 (((4 * v6) + 2).toNatClampNeg))) + (M9 17 0 0 (((4 * v6) + 3).toNatClampNeg))) then wk_cl (f_X3_energy v6 5 M9) (fun r15 M16 => (if r15 = (-1) then (some (1, M16)) else (some (0, M16)))) else (some (0, M9)))))))) else (some (0, M6)))) else (some (0, M3)))) else (some (0, M)))
def f_L_isRoom_456 (v6 : Int32) (s0 : Int32) (s1 : Int32) (M : wk_T) : Option (Int32 × wk_T) := (if s0 = s1 then wk_cl (f_X3_roomOf v6 13 M) (fun r2 M3 => wk_gd (¬ (((8 * v6) + 5) < 0 ∨ 64 ≤ ((8 * v6) + 5).toNatClampNeg)) ((if 2 ≤ (M3 16 0 0 (((8 * v6) + 5).toNatClampNeg)) then wk_gd (¬ ((33 + (2 * v6)) < 0 ∨ 48 ≤ (33 + (2 * v6)).toNatClampNeg)) ((f_L_isRoom_495 v6 r2 (M3 17 0 0 ((33 + (2 * v6)).toNatClampNeg)) M3)) else (f_L_isRoom_495 v6 r2 (-4) M3)))) else (some (0, M)))
def f_L_isRoom_346 (v6 : Int32) (v7 : Int32) (s0 : Int32) (M : wk_T) : Option (Int32 × wk_T) := (if s0 = 0 then (some (0, M)) else wk_cl (f_X3_roomOf v6 8 M) (fun r2 M3 => (if r2 = v7 then wk_cl (f_X3_roomOf v6 9 M3) (fun r5 M6 => wk_gd (¬ (((8 * v6) + 5) < 0 ∨ 64 ≤ ((8 * v6) + 5).toNatClampNeg)) ((if r5 = (M6 16 0 0 (((8 * v6) + 5).toNatClampNeg)) then wk_cl (f_X3_roomOf v6 10 M6) (fun r9 M10 => wk_gd (¬ (((8 * v6) + 6) < 0 ∨ 64 ≤ ((8 * v6) + 6).toNatClampNeg)) ((if r9 = (M10 16 0 0 (((8 * v6) + 6).toNatClampNeg)) then wk_cl (f_X3_roomOf v6 11 M10) (fun r13 M14 => wk_gd (¬ (((8 * v6) + 7) < 0 ∨ 64 ≤ ((8 * v6) + 7).toNatClampNeg)) ((if r13 = (M14 16 0 0 (((8 * v6) + 7).toNatClampNeg)) then wk_cl (f_X3_roomOf v6 12 M14) (fun r17 M18 => wk_cl (f_L_called v6 M18) (fun r19 M20 => (if r19 = 0 then (f_L_isRoom_456 v6 r17 0 M20) else (f_L_isRoom_456 v6 r17 1 M20)))) else (some (0, M14))))) else (some (0, M10))))) else (some (0, M6))))) else (some (0, M3)))))
def f_L_isRoom_345 (v6 : Int32) (v7 : Int32) (M : wk_T) : Option (Int32 × wk_T) := (f_L_isRoom_346 v6 v7 0 M)
def f_L_isRoom_298 (v6 : Int32) (v7 : Int32) (s0 : Int32) (s1 : Int32) (M : wk_T) : Option (Int32 × wk_T) := (if s0 = s1 then wk_cl (f_X3_roomOf v6 6 M) (fun r2 M3 => wk_gd (¬ (((8 * v6) + 3) < 0 ∨ 64 ≤ ((8 * v6) + 3).toNatClampNeg)) ((if r2 = (M3 16 0 0 (((8 * v6) + 3).toNatClampNeg)) then wk_cl (f_X3_roomOf v6 7 M3) (fun r6 M7 => wk_gd (¬ (((8 * v6) + 4) < 0 ∨ 64 ≤ ((8 * v6) + 4).toNatClampNeg)) ((if r6 = (M7 16 0 0 (((8 * v6) + 4).toNatClampNeg)) then (f_L_isRoom_346 v6 v7 1 M7) else (f_L_isRoom_345 v6 v7 M7)))) else (f_L_isRoom_345 v6 v7 M3)))) else (f_L_isRoom_345 v6 v7 M))
def f_L_isRoom_269 (v6 : Int32) (v7 : Int32) (v9 : Int32) (s0 : Int32) (s1 : Int32) (M : wk_T) : Option (Int32 × wk_T) := (if s0 = s1 then wk_cl (f_X3_roomOf v6 5 M) (fun r2 M3 => (if v9 = 2 then wk_gd (¬ (((8 * v6) + 2) < 0 ∨ 64 ≤ ((8 * v6) + 2).toNatClampNeg)) ((f_L_isRoom_298 v6 v7 r2 (M3 16 0 0 (((8 * v6) + 2).toNatClampNeg)) M3)) else (f_L_isRoom_298 v6 v7 r2 0 M3))) else (f_L_isRoom_345 v6 v7 M))
def f_L_isRoom_238 (v6 : Int32) (v7 : Int32) (v9 : Int32) (s0 : Int32) (s1 : Int32) (M : wk_T) : Option (Int32 × wk_T) := (if s0 = s1 then wk_cl (f_X3_roomOf v6 4 M) (fun r2 M3 => (if (wk_rem v9 2) = 1 then wk_gd (¬ (((8 * v6) + 1) < 0 ∨ 64 ≤ ((8 * v6) + 1).toNatClampNeg)) ((f_L_isRoom_269 v6 v7 v9 r2 (M3 16 0 0 (((8 * v6) + 1).toNatClampNeg)) M3)) else (f_L_isRoom_269 v6 v7 v9 r2 0 M3))) else (f_L_isRoom_345 v6 v7 M))
def f_L_isRoom_200 (v6 : Int32) (v7 : Int32) (v9 : Int32) (s0 : Int32) (s1 : Int32) (M : wk_T) : Option (Int32 × wk_T) := (if s0 = s1 then wk_cl (f_X3_roomOf v6 3 M) (fun r2 M3 => wk_gd (¬ (((8 * v6) + 7) < 0 ∨ 64 ≤ ((8 * v6) + 7).toNatClampNeg)) ((if 0 ≤ (M3 15 0 0 (((8 * v6) + 7).toNatClampNeg)) then wk_gd (¬ (((8 * v6) + 7) < 0 ∨ 64 ≤ ((8 * v6) + 7).toNatClampNeg)) ((f_L_isRoom_238 v6 v7 v9 r2 (M3 15 0 0 (((8 * v6) + 7).toNatClampNeg)) M3)) else (f_L_isRoom_238 v6 v7 v9 r2 (-4) M3)))) else (f_L_isRoom_345 v6 v7 M))
def f_L_isRoom_122 (v6 : Int32) (v7 : Int32) (v8 : Int32) (M : wk_T) : Option (Int32 × wk_T) := wk_gd (¬ ((8 * v6) < 0 ∨ 64 ≤ (8 * v6).toNatClampNeg)) (wk_lt ((M 16 0 0 ((8 * v6).toNatClampNeg))) (fun x2 => (if v8 = 0 then (f_L_isRoom_345 v6 v7 M) else wk_cl (f_X3_roomOf v6 0 M) (fun r4 M5 => wk_gd (¬ ((8 * v6) < 0 ∨ 64 ≤ (8 * v6).toNatClampNeg)) ((if r4 = (M5 15 0 0 ((8 * v6).toNatClampNeg)) then wk_cl (f_X3_roomOf v6 1 M5) (fun r8 M9 => (if r8 = x2 then wk_cl (f_X3_roomOf v6 2 M9) (fun r11 M12 => wk_gd (¬ (((8 * v6) + 6) < 0 ∨ 64 ≤ ((8 * v6) + 6).toNatClampNeg)) ((if 0 ≤ (M12 15 0 0 (((8 * v6) + 6).toNatClampNeg)) then wk_gd (¬ (((8 * v6) + 6) < 0 ∨ 64 ≤ ((8 * v6) + 6).toNatClampNeg)) ((f_L_isRoom_200 v6 v7 x2 r11 (M12 15 0 0 (((8 * v6) + 6).toNatClampNeg)) M12)) else (f_L_isRoom_200 v6 v7 x2 r11 (-4) M12)))) else (f_L_isRoom_345 v6 v7 M9))) else (f_L_isRoom_345 v6 v7 M5)))))))
def f_L_isRoom_48 : Nat → Int32 → Int32 → Int32 → Int32 → wk_T → Option (Int32 × wk_T)
  | 0, _, _, _, _, _ => none
  | n + 1, v6, v7, v8, v9, M => (if 5 ≤ v9 then (f_L_isRoom_122 v6 v7 v8 M) else (if v8 = 0 then (f_L_isRoom_122 v6 v7 v8 M) else wk_cl (f_X3_costOf v6 v9 M) (fun r3 M4 => wk_gd (¬ ((((8 * v6) + 1) + v9) < 0 ∨ 64 ≤ (((8 * v6) + 1) + v9).toNatClampNeg)) ((if r3 = (M4 15 0 0 ((((8 * v6) + 1) + v9).toNatClampNeg)) then (if v9 = 4 then (f_L_isRoom_109 (f_L_isRoom_48 n) v6 v7 v9 M4) else wk_cl (f_X3_energy v6 v9 M4) (fun r8 M9 => wk_gd (¬ (((4 * v6) + v9) < 0 ∨ 48 ≤ ((4 * v6) + v9).toNatClampNeg)) ((if r8 = (M9 17 0 0 (((4 * v6) + v9).toNatClampNeg)) then (f_L_isRoom_109 (f_L_isRoom_48 n) v6 v7 v9 M9) else (f_L_isRoom_113 (f_L_isRoom_48 n) v6 v7 v9 M9))))) else (f_L_isRoom_113 (f_L_isRoom_48 n) v6 v7 v9 M4))))))
def f_L_isRoom_9 : Nat → Int32 → Int32 → Int32 → Int32 → wk_T → Option (Int32 × wk_T)
  | 0, _, _, _, _, _ => none
  | n + 1, v6, v7, v8, v9, M => (if (M 14 0 0 1) ≤ v9 then (f_L_isRoom_48 wk_fuel v6 v7 v8 0 M) else wk_gd (¬ ((3 * v9) < 0 ∨ 36 ≤ (3 * v9).toNatClampNeg)) ((if (M 18 0 0 ((3 * v9).toNatClampNeg)) = v6 then (f_L_isRoom_36 (f_L_isRoom_9 n) v6 v8 v9 v7 1 M) else (f_L_isRoom_36 (f_L_isRoom_9 n) v6 v8 v9 v7 0 M))))
def f_L_isRoom (v6 : Int32) (M : wk_T) : Option (Int32 × wk_T) := (f_L_isRoom_9 wk_fuel v6 0 1 0 M)
set_option maxRecDepth 100000 in
set_option maxHeartbeats 4000000 in
theorem w_L_isRoom_36 {r0 : Int32} (CX : wk_X p l e R s m args below meth c cells slots Q cL_isRoom 10 RL wsL_isRoom D y B Lk A 3 73) (RT : wk_Rz p l e R s m args below meth c cells slots Q cL_isRoom D y B Lk A r0 MM) {k9 : Int32 → Int32 → Int32 → Int32 → wk_T → Option (Int32 × wk_T)} (hk9 : ∀ (v6 : Int32) (v7 : Int32) (v8 : Int32) (v9 : Int32) (M : wk_T) (H : Heap) (locs : List Loc) (ls : Array Slot), k9 v6 v7 v8 v9 M = some (r0, MM) → lv_has ls 10 [(0, .ref (B 9 0 0)), (1, .ref (B 14 0 0)), (2, .ref (B 15 0 0)), (3, .ref (B 16 0 0)), (4, .ref (B 17 0 0)), (5, .ref (B 18 0 0)), (6, .int v6), (7, .int v7), (8, .int v8), (9, .int v9)] → wk_H D y B Lk M H → va_S A s.heap H locs → W p l e R s m args below meth c H locs cells slots Q (F0 m 9 ls [])) {v6 : Int32} {v8 : Int32} {v9 : Int32} {s0 : Int32} {s1 : Int32} {M : wk_T} {H : Heap} {locs : List Loc} {ls : Array Slot} (h : f_L_isRoom_36 k9 v6 v8 v9 s0 s1 M = some (r0, MM)) (hl : lv_has ls 10 [(0, .ref (B 9 0 0)), (1, .ref (B 14 0 0)), (2, .ref (B 15 0 0)), (3, .ref (B 16 0 0)), (4, .ref (B 17 0 0)), (5, .ref (B 18 0 0)), (6, .int v6), (8, .int v8), (9, .int v9)]) (hP : wk_H D y B Lk M H) (hS : va_S A s.heap H locs) : W p l e R s m args below meth c H locs cells slots Q (F0 m 36 ls [.int s1, .int s0]) := by
  obtain ⟨⟨hx, hb, hml, hown, hts⟩, hK, hI, hL, hA, hfr, hlo, hcs⟩ := id CX
  unfold f_L_isRoom_36 at h
  refine lv_iadd hx hb dL_isRoom_36 ?_
  obtain ⟨x1, ex1, h⟩ := wk_lt_e h
  refine wk_topi ex1 ?_
  refine lv_istore (lv' := [(7, .int x1), (0, .ref (B 9 0 0)), (1, .ref (B 14 0 0)), (2, .ref (B 15 0 0)), (3, .ref (B 16 0 0)), (4, .ref (B 17 0 0)), (5, .ref (B 18 0 0)), (6, .int v6), (8, .int v8), (9, .int v9)]) hx hb dL_isRoom_37 hl (by decide) rfl (fun ls hl => ?_)
  obtain ⟨x2, ex2, h⟩ := wk_lt_e h
  refine lv_iinc (v := x2) (lv' := [(9, .int x2), (7, .int x1), (0, .ref (B 9 0 0)), (1, .ref (B 14 0 0)), (2, .ref (B 15 0 0)), (3, .ref (B 16 0 0)), (4, .ref (B 17 0 0)), (5, .ref (B 18 0 0)), (6, .int v6), (8, .int v8)]) hx hb dL_isRoom_39 hl (k := 9) rfl (by rw [← ex2]; rfl) (by decide) rfl (fun ls hl => ?_)
  refine lv_goto (tgt := 9) hx hb dL_isRoom_42 (by decide) ?_
  exact hk9 _ _ _ _ _ _ _ _ h (lv_sub hl [2, 3, 4, 5, 6, 7, 8, 1, 9, 0] rfl) hP hS
set_option maxRecDepth 100000 in
set_option maxHeartbeats 4000000 in
theorem w_L_isRoom_114 {r0 : Int32} (CX : wk_X p l e R s m args below meth c cells slots Q cL_isRoom 10 RL wsL_isRoom D y B Lk A 3 73) (RT : wk_Rz p l e R s m args below meth c cells slots Q cL_isRoom D y B Lk A r0 MM) {k48 : Int32 → Int32 → Int32 → Int32 → wk_T → Option (Int32 × wk_T)} (hk48 : ∀ (v6 : Int32) (v7 : Int32) (v8 : Int32) (v9 : Int32) (M : wk_T) (H : Heap) (locs : List Loc) (ls : Array Slot), k48 v6 v7 v8 v9 M = some (r0, MM) → lv_has ls 10 [(0, .ref (B 9 0 0)), (1, .ref (B 14 0 0)), (2, .ref (B 15 0 0)), (3, .ref (B 16 0 0)), (4, .ref (B 17 0 0)), (5, .ref (B 18 0 0)), (6, .int v6), (7, .int v7), (8, .int v8), (9, .int v9)] → wk_H D y B Lk M H → va_S A s.heap H locs → W p l e R s m args below meth c H locs cells slots Q (F0 m 48 ls [])) {v6 : Int32} {v7 : Int32} {v9 : Int32} {s0 : Int32} {M : wk_T} {H : Heap} {locs : List Loc} {ls : Array Slot} (h : f_L_isRoom_114 k48 v6 v7 v9 s0 M = some (r0, MM)) (hl : lv_has ls 10 [(0, .ref (B 9 0 0)), (1, .ref (B 14 0 0)), (2, .ref (B 15 0 0)), (3, .ref (B 16 0 0)), (4, .ref (B 17 0 0)), (5, .ref (B 18 0 0)), (6, .int v6), (7, .int v7), (9, .int v9)]) (hP : wk_H D y B Lk M H) (hS : va_S A s.heap H locs) : W p l e R s m args below meth c H locs cells slots Q (F0 m 114 ls [.int s0]) := by
  obtain ⟨⟨hx, hb, hml, hown, hts⟩, hK, hI, hL, hA, hfr, hlo, hcs⟩ := id CX
  unfold f_L_isRoom_114 at h
  refine lv_istore (lv' := [(8, .int s0), (0, .ref (B 9 0 0)), (1, .ref (B 14 0 0)), (2, .ref (B 15 0 0)), (3, .ref (B 16 0 0)), (4, .ref (B 17 0 0)), (5, .ref (B 18 0 0)), (6, .int v6), (7, .int v7), (9, .int v9)]) hx hb dL_isRoom_114 hl (by decide) rfl (fun ls hl => ?_)
  obtain ⟨x1, ex1, h⟩ := wk_lt_e h
  refine lv_iinc (v := x1) (lv' := [(9, .int x1), (8, .int s0), (0, .ref (B 9 0 0)), (1, .ref (B 14 0 0)), (2, .ref (B 15 0 0)), (3, .ref (B 16 0 0)), (4, .ref (B 17 0 0)), (5, .ref (B 18 0 0)), (6, .int v6), (7, .int v7)]) hx hb dL_isRoom_116 hl (k := 9) rfl (by rw [← ex1]; rfl) (by decide) rfl (fun ls hl => ?_)
  refine lv_goto (tgt := 48) hx hb dL_isRoom_119 (by decide) ?_
  exact hk48 _ _ _ _ _ _ _ _ h (lv_sub hl [2, 3, 4, 5, 6, 7, 8, 9, 1, 0] rfl) hP hS
set_option maxRecDepth 100000 in
set_option maxHeartbeats 4000000 in
theorem w_L_isRoom_109 {r0 : Int32} (CX : wk_X p l e R s m args below meth c cells slots Q cL_isRoom 10 RL wsL_isRoom D y B Lk A 3 73) (RT : wk_Rz p l e R s m args below meth c cells slots Q cL_isRoom D y B Lk A r0 MM) {k48 : Int32 → Int32 → Int32 → Int32 → wk_T → Option (Int32 × wk_T)} (hk48 : ∀ (v6 : Int32) (v7 : Int32) (v8 : Int32) (v9 : Int32) (M : wk_T) (H : Heap) (locs : List Loc) (ls : Array Slot), k48 v6 v7 v8 v9 M = some (r0, MM) → lv_has ls 10 [(0, .ref (B 9 0 0)), (1, .ref (B 14 0 0)), (2, .ref (B 15 0 0)), (3, .ref (B 16 0 0)), (4, .ref (B 17 0 0)), (5, .ref (B 18 0 0)), (6, .int v6), (7, .int v7), (8, .int v8), (9, .int v9)] → wk_H D y B Lk M H → va_S A s.heap H locs → W p l e R s m args below meth c H locs cells slots Q (F0 m 48 ls [])) {v6 : Int32} {v7 : Int32} {v9 : Int32} {M : wk_T} {H : Heap} {locs : List Loc} {ls : Array Slot} (h : f_L_isRoom_109 k48 v6 v7 v9 M = some (r0, MM)) (hl : lv_has ls 10 [(0, .ref (B 9 0 0)), (1, .ref (B 14 0 0)), (2, .ref (B 15 0 0)), (3, .ref (B 16 0 0)), (4, .ref (B 17 0 0)), (5, .ref (B 18 0 0)), (6, .int v6), (7, .int v7), (9, .int v9)]) (hP : wk_H D y B Lk M H) (hS : va_S A s.heap H locs) : W p l e R s m args below meth c H locs cells slots Q (F0 m 109 ls []) := by
  obtain ⟨⟨hx, hb, hml, hown, hts⟩, hK, hI, hL, hA, hfr, hlo, hcs⟩ := id CX
  unfold f_L_isRoom_109 at h
  refine lv_iconst (v := 1) hx hb dL_isRoom_109 (by decide) ?_
  refine lv_goto (tgt := 114) hx hb dL_isRoom_110 (by decide) ?_
  exact w_L_isRoom_114 CX RT hk48 h (lv_sub hl [0, 1, 2, 3, 4, 5, 6, 7, 8] rfl) hP hS
set_option maxRecDepth 100000 in
set_option maxHeartbeats 4000000 in
theorem w_L_isRoom_113 {r0 : Int32} (CX : wk_X p l e R s m args below meth c cells slots Q cL_isRoom 10 RL wsL_isRoom D y B Lk A 3 73) (RT : wk_Rz p l e R s m args below meth c cells slots Q cL_isRoom D y B Lk A r0 MM) {k48 : Int32 → Int32 → Int32 → Int32 → wk_T → Option (Int32 × wk_T)} (hk48 : ∀ (v6 : Int32) (v7 : Int32) (v8 : Int32) (v9 : Int32) (M : wk_T) (H : Heap) (locs : List Loc) (ls : Array Slot), k48 v6 v7 v8 v9 M = some (r0, MM) → lv_has ls 10 [(0, .ref (B 9 0 0)), (1, .ref (B 14 0 0)), (2, .ref (B 15 0 0)), (3, .ref (B 16 0 0)), (4, .ref (B 17 0 0)), (5, .ref (B 18 0 0)), (6, .int v6), (7, .int v7), (8, .int v8), (9, .int v9)] → wk_H D y B Lk M H → va_S A s.heap H locs → W p l e R s m args below meth c H locs cells slots Q (F0 m 48 ls [])) {v6 : Int32} {v7 : Int32} {v9 : Int32} {M : wk_T} {H : Heap} {locs : List Loc} {ls : Array Slot} (h : f_L_isRoom_113 k48 v6 v7 v9 M = some (r0, MM)) (hl : lv_has ls 10 [(0, .ref (B 9 0 0)), (1, .ref (B 14 0 0)), (2, .ref (B 15 0 0)), (3, .ref (B 16 0 0)), (4, .ref (B 17 0 0)), (5, .ref (B 18 0 0)), (6, .int v6), (7, .int v7), (9, .int v9)]) (hP : wk_H D y B Lk M H) (hS : va_S A s.heap H locs) : W p l e R s m args below meth c H locs cells slots Q (F0 m 113 ls []) := by
  obtain ⟨⟨hx, hb, hml, hown, hts⟩, hK, hI, hL, hA, hfr, hlo, hcs⟩ := id CX
  unfold f_L_isRoom_113 at h
  refine lv_iconst (v := 0) hx hb dL_isRoom_113 (by decide) ?_
  exact w_L_isRoom_114 CX RT hk48 h (lv_sub hl [0, 1, 2, 3, 4, 5, 6, 7, 8] rfl) hP hS
set_option maxRecDepth 100000 in
set_option maxHeartbeats 4000000 in
theorem w_L_isRoom_495 {r0 : Int32} (CX : wk_X p l e R s m args below meth c cells slots Q cL_isRoom 10 RL wsL_isRoom D y B Lk A 3 73) (RT : wk_Rz p l e R s m args below meth c cells slots Q cL_isRoom D y B Lk A r0 MM) {v6 : Int32} {s0 : Int32} {s1 : Int32} {M : wk_T} {H : Heap} {locs : List Loc} {ls : Array Slot} (h : f_L_isRoom_495 v6 s0 s1 M = some (r0, MM)) (hl : lv_has ls 10 [(0, .ref (B 9 0 0)), (4, .ref (B 17 0 0)), (6, .int v6)]) (hP : wk_H D y B Lk M H) (hS : va_S A s.heap H locs) : W p l e R s m args below meth c H locs cells slots Q (F0 m 495 ls [.int s1, .int s0]) := by
  obtain ⟨⟨hx, hb, hml, hown, hts⟩, hK, hI, hL, hA, hfr, hlo, hcs⟩ := id CX
  unfold f_L_isRoom_495 at h
  refine lv_icmp_ne (tgt := 583) hx hb dL_isRoom_495 (by decide) (fun g1 => ?_) (fun g1 => ?_)
  · have h := wk_n g1 h
    refine lv_iconst (v := 0) hx hb dL_isRoom_583 (by decide) ?_
    exact RT _ _ _ _ _ _ (Or.inl rfl) h hP hS dL_isRoom_584
  · have h := wk_p g1 h
    refine lv_aload_n hx hb dL_isRoom_498 rfl (lv_at hl 0 rfl) ?_
    refine lv_iload hx hb dL_isRoom_499 (lv_at hl 2 rfl) ?_
    refine lv_bipush (v := 14) hx hb dL_isRoom_501 (by decide) ?_
    obtain ⟨r2, M3, er2, h⟩ := wk_cl_e h
    refine wk_cVi (As := [.int v6, .int 14]) (rest := []) ⟨hx, hb, hml, hown, hts⟩ (m_X3_roomOf l hI hL er2) (cwV 2 hts gL_isRoom_X3_roomOf rfl rfl rfl (by decide +kernel) ⟨Nat.le_trans (by decide) hfr, Nat.le_trans (by decide) hlo⟩) hK hP hS hA (wk_l9 hL 9 (by decide) (by decide)) wk_c9 rfl rfl hl.1 (lv_room (Nat.le_of_ble_eq_true rfl)) hcs dL_isRoom_503 (fun H locs hP hS => ?_)
    refine lv_iconst (v := (-1)) hx hb dL_isRoom_506 (by decide) ?_
    refine lv_icmp_ne (tgt := 583) hx hb dL_isRoom_507 (by decide) (fun g4 => ?_) (fun g4 => ?_)
    · have h := wk_n g4 h
      refine lv_iconst (v := 0) hx hb dL_isRoom_583 (by decide) ?_
      exact RT _ _ _ _ _ _ (Or.inl rfl) h hP hS dL_isRoom_584
    · have h := wk_p g4 h
      refine lv_aload_n hx hb dL_isRoom_510 rfl (lv_at hl 0 rfl) ?_
      refine lv_iload hx hb dL_isRoom_511 (lv_at hl 2 rfl) ?_
      refine lv_iconst (v := 5) hx hb dL_isRoom_513 (by decide) ?_
      obtain ⟨r5, M6, er5, h⟩ := wk_cl_e h
      refine wk_cVi (As := [.int v6, .int 5]) (rest := []) ⟨hx, hb, hml, hown, hts⟩ (m_X3_costOf l hI hL er5) (cwV 2 hts gL_isRoom_X3_costOf rfl rfl rfl (by decide +kernel) ⟨Nat.le_trans (by decide) hfr, Nat.le_trans (by decide) hlo⟩) hK hP hS hA (wk_l9 hL 9 (by decide) (by decide)) wk_c9 rfl rfl hl.1 (lv_room (Nat.le_of_ble_eq_true rfl)) hcs dL_isRoom_514 (fun H locs hP hS => ?_)
      refine lv_iconst (v := (-1)) hx hb dL_isRoom_517 (by decide) ?_
      refine lv_icmp_ne (tgt := 583) hx hb dL_isRoom_518 (by decide) (fun g7 => ?_) (fun g7 => ?_)
      · have h := wk_n g7 h
        refine lv_iconst (v := 0) hx hb dL_isRoom_583 (by decide) ?_
        exact RT _ _ _ _ _ _ (Or.inl rfl) h hP hS dL_isRoom_584
      · have h := wk_p g7 h
        refine lv_aload_n hx hb dL_isRoom_521 rfl (lv_at hl 0 rfl) ?_
        refine lv_iload hx hb dL_isRoom_522 (lv_at hl 2 rfl) ?_
        refine lv_iconst (v := 4) hx hb dL_isRoom_524 (by decide) ?_
        obtain ⟨r8, M9, er8, h⟩ := wk_cl_e h
        refine wk_cVi (As := [.int v6, .int 4]) (rest := []) ⟨hx, hb, hml, hown, hts⟩ (m_X3_energy l hI hL er8) (cwV 2 hts gL_isRoom_X3_energy rfl rfl rfl (by decide +kernel) ⟨Nat.le_trans (by decide) hfr, Nat.le_trans (by decide) hlo⟩) hK hP hS hA (wk_l9 hL 9 (by decide) (by decide)) wk_c9 rfl rfl hl.1 (lv_room (Nat.le_of_ble_eq_true rfl)) hcs dL_isRoom_525 (fun H locs hP hS => ?_)
        refine lv_aload hx hb dL_isRoom_528 (lv_at hl 1 rfl) ?_
        refine lv_iconst (v := 4) hx hb dL_isRoom_530 (by decide) ?_
        refine lv_iload hx hb dL_isRoom_531 (lv_at hl 2 rfl) ?_
        refine lv_imul hx hb dL_isRoom_533 ?_
        obtain ⟨g10, h⟩ := wk_gd_e h
        refine wk_iald (j := (4 * v6).toNatClampNeg) hx hb hK hP (wk_lL hL 17 (by decide) (by decide)) wk_c17 g10 rfl dL_isRoom_534 ?_
        refine lv_aload hx hb dL_isRoom_535 (lv_at hl 1 rfl) ?_
        refine lv_iconst (v := 4) hx hb dL_isRoom_537 (by decide) ?_
        refine lv_iload hx hb dL_isRoom_538 (lv_at hl 2 rfl) ?_
        refine lv_imul hx hb dL_isRoom_540 ?_
        refine lv_iconst (v := 1) hx hb dL_isRoom_541 (by decide) ?_
        refine lv_iadd hx hb dL_isRoom_542 ?_
        obtain ⟨g11, h⟩ := wk_gd_e h
        refine wk_iald (j := ((4 * v6) + 1).toNatClampNeg) hx hb hK hP (wk_lL hL 17 (by decide) (by decide)) wk_c17 g11 rfl dL_isRoom_543 ?_
        refine lv_iadd hx hb dL_isRoom_544 ?_
        refine lv_aload hx hb dL_isRoom_545 (lv_at hl 1 rfl) ?_
        refine lv_iconst (v := 4) hx hb dL_isRoom_547 (by decide) ?_
        refine lv_iload hx hb dL_isRoom_548 (lv_at hl 2 rfl) ?_
        refine lv_imul hx hb dL_isRoom_550 ?_
        refine lv_iconst (v := 2) hx hb dL_isRoom_551 (by decide) ?_
        refine lv_iadd hx hb dL_isRoom_552 ?_
        obtain ⟨g12, h⟩ := wk_gd_e h
        refine wk_iald (j := ((4 * v6) + 2).toNatClampNeg) hx hb hK hP (wk_lL hL 17 (by decide) (by decide)) wk_c17 g12 rfl dL_isRoom_553 ?_
        refine lv_iadd hx hb dL_isRoom_554 ?_
        refine lv_aload hx hb dL_isRoom_555 (lv_at hl 1 rfl) ?_
        refine lv_iconst (v := 4) hx hb dL_isRoom_557 (by decide) ?_
        refine lv_iload hx hb dL_isRoom_558 (lv_at hl 2 rfl) ?_
        refine lv_imul hx hb dL_isRoom_560 ?_
        refine lv_iconst (v := 3) hx hb dL_isRoom_561 (by decide) ?_
        refine lv_iadd hx hb dL_isRoom_562 ?_
        obtain ⟨g13, h⟩ := wk_gd_e h
        refine wk_iald (j := ((4 * v6) + 3).toNatClampNeg) hx hb hK hP (wk_lL hL 17 (by decide) (by decide)) wk_c17 g13 rfl dL_isRoom_563 ?_
        refine lv_iadd hx hb dL_isRoom_564 ?_
        refine lv_icmp_ne (tgt := 583) hx hb dL_isRoom_565 (by decide) (fun g14 => ?_) (fun g14 => ?_)
        · have h := wk_n g14 h
          refine lv_iconst (v := 0) hx hb dL_isRoom_583 (by decide) ?_
          exact RT _ _ _ _ _ _ (Or.inl rfl) h hP hS dL_isRoom_584
        · have h := wk_p g14 h
          refine lv_aload_n hx hb dL_isRoom_568 rfl (lv_at hl 0 rfl) ?_
          refine lv_iload hx hb dL_isRoom_569 (lv_at hl 2 rfl) ?_
          refine lv_iconst (v := 5) hx hb dL_isRoom_571 (by decide) ?_
          obtain ⟨r15, M16, er15, h⟩ := wk_cl_e h
          refine wk_cVi (As := [.int v6, .int 5]) (rest := []) ⟨hx, hb, hml, hown, hts⟩ (m_X3_energy l hI hL er15) (cwV 2 hts gL_isRoom_X3_energy rfl rfl rfl (by decide +kernel) ⟨Nat.le_trans (by decide) hfr, Nat.le_trans (by decide) hlo⟩) hK hP hS hA (wk_l9 hL 9 (by decide) (by decide)) wk_c9 rfl rfl hl.1 (lv_room (Nat.le_of_ble_eq_true rfl)) hcs dL_isRoom_572 (fun H locs hP hS => ?_)
          refine lv_iconst (v := (-1)) hx hb dL_isRoom_575 (by decide) ?_
          refine lv_icmp_ne (tgt := 583) hx hb dL_isRoom_576 (by decide) (fun g17 => ?_) (fun g17 => ?_)
          · have h := wk_n g17 h
            refine lv_iconst (v := 0) hx hb dL_isRoom_583 (by decide) ?_
            exact RT _ _ _ _ _ _ (Or.inl rfl) h hP hS dL_isRoom_584
          · have h := wk_p g17 h
            refine lv_iconst (v := 1) hx hb dL_isRoom_579 (by decide) ?_
            refine lv_goto (tgt := 584) hx hb dL_isRoom_580 (by decide) ?_
            exact RT _ _ _ _ _ _ (Or.inr rfl) h hP hS dL_isRoom_584
set_option maxRecDepth 100000 in
set_option maxHeartbeats 4000000 in
theorem w_L_isRoom_456 {r0 : Int32} (CX : wk_X p l e R s m args below meth c cells slots Q cL_isRoom 10 RL wsL_isRoom D y B Lk A 3 73) (RT : wk_Rz p l e R s m args below meth c cells slots Q cL_isRoom D y B Lk A r0 MM) {v6 : Int32} {s0 : Int32} {s1 : Int32} {M : wk_T} {H : Heap} {locs : List Loc} {ls : Array Slot} (h : f_L_isRoom_456 v6 s0 s1 M = some (r0, MM)) (hl : lv_has ls 10 [(0, .ref (B 9 0 0)), (3, .ref (B 16 0 0)), (4, .ref (B 17 0 0)), (6, .int v6)]) (hP : wk_H D y B Lk M H) (hS : va_S A s.heap H locs) : W p l e R s m args below meth c H locs cells slots Q (F0 m 456 ls [.int s1, .int s0]) := by
  obtain ⟨⟨hx, hb, hml, hown, hts⟩, hK, hI, hL, hA, hfr, hlo, hcs⟩ := id CX
  unfold f_L_isRoom_456 at h
  refine lv_icmp_ne (tgt := 583) hx hb dL_isRoom_456 (by decide) (fun g1 => ?_) (fun g1 => ?_)
  · have h := wk_n g1 h
    refine lv_iconst (v := 0) hx hb dL_isRoom_583 (by decide) ?_
    exact RT _ _ _ _ _ _ (Or.inl rfl) h hP hS dL_isRoom_584
  · have h := wk_p g1 h
    refine lv_aload_n hx hb dL_isRoom_459 rfl (lv_at hl 0 rfl) ?_
    refine lv_iload hx hb dL_isRoom_460 (lv_at hl 3 rfl) ?_
    refine lv_bipush (v := 13) hx hb dL_isRoom_462 (by decide) ?_
    obtain ⟨r2, M3, er2, h⟩ := wk_cl_e h
    refine wk_cVi (As := [.int v6, .int 13]) (rest := []) ⟨hx, hb, hml, hown, hts⟩ (m_X3_roomOf l hI hL er2) (cwV 2 hts gL_isRoom_X3_roomOf rfl rfl rfl (by decide +kernel) ⟨Nat.le_trans (by decide) hfr, Nat.le_trans (by decide) hlo⟩) hK hP hS hA (wk_l9 hL 9 (by decide) (by decide)) wk_c9 rfl rfl hl.1 (lv_room (Nat.le_of_ble_eq_true rfl)) hcs dL_isRoom_464 (fun H locs hP hS => ?_)
    refine lv_aload_n hx hb dL_isRoom_467 rfl (lv_at hl 1 rfl) ?_
    refine lv_bipush (v := 8) hx hb dL_isRoom_468 (by decide) ?_
    refine lv_iload hx hb dL_isRoom_470 (lv_at hl 3 rfl) ?_
    refine lv_imul hx hb dL_isRoom_472 ?_
    refine lv_iconst (v := 5) hx hb dL_isRoom_473 (by decide) ?_
    refine lv_iadd hx hb dL_isRoom_474 ?_
    obtain ⟨g4, h⟩ := wk_gd_e h
    refine wk_iald (j := ((8 * v6) + 5).toNatClampNeg) hx hb hK hP (wk_lL hL 16 (by decide) (by decide)) wk_c16 g4 rfl dL_isRoom_475 ?_
    refine lv_iconst (v := 2) hx hb dL_isRoom_476 (by decide) ?_
    refine lv_icmp_ge (tgt := 485) hx hb dL_isRoom_477 (by decide) (fun g5 => ?_) (fun g5 => ?_)
    · have h := wk_p g5 h
      refine lv_aload hx hb dL_isRoom_485 (lv_at hl 2 rfl) ?_
      refine lv_bipush (v := 33) hx hb dL_isRoom_487 (by decide) ?_
      refine lv_iconst (v := 2) hx hb dL_isRoom_489 (by decide) ?_
      refine lv_iload hx hb dL_isRoom_490 (lv_at hl 3 rfl) ?_
      refine lv_imul hx hb dL_isRoom_492 ?_
      refine lv_iadd hx hb dL_isRoom_493 ?_
      obtain ⟨g6, h⟩ := wk_gd_e h
      refine wk_iald (j := (33 + (2 * v6)).toNatClampNeg) hx hb hK hP (wk_lL hL 17 (by decide) (by decide)) wk_c17 g6 rfl dL_isRoom_494 ?_
      exact w_L_isRoom_495 CX RT h (lv_sub hl [0, 2, 3] rfl) hP hS
    · have h := wk_n g5 h
      refine lv_bipush (v := (-4)) hx hb dL_isRoom_480 (by decide) ?_
      refine lv_goto (tgt := 495) hx hb dL_isRoom_482 (by decide) ?_
      exact w_L_isRoom_495 CX RT h (lv_sub hl [0, 2, 3] rfl) hP hS
set_option maxRecDepth 100000 in
set_option maxHeartbeats 4000000 in
theorem w_L_isRoom_346 {r0 : Int32} (CX : wk_X p l e R s m args below meth c cells slots Q cL_isRoom 10 RL wsL_isRoom D y B Lk A 3 73) (RT : wk_Rz p l e R s m args below meth c cells slots Q cL_isRoom D y B Lk A r0 MM) {v6 : Int32} {v7 : Int32} {s0 : Int32} {M : wk_T} {H : Heap} {locs : List Loc} {ls : Array Slot} (h : f_L_isRoom_346 v6 v7 s0 M = some (r0, MM)) (hl : lv_has ls 10 [(0, .ref (B 9 0 0)), (1, .ref (B 14 0 0)), (2, .ref (B 15 0 0)), (3, .ref (B 16 0 0)), (4, .ref (B 17 0 0)), (5, .ref (B 18 0 0)), (6, .int v6), (7, .int v7)]) (hP : wk_H D y B Lk M H) (hS : va_S A s.heap H locs) : W p l e R s m args below meth c H locs cells slots Q (F0 m 346 ls [.int s0]) := by
  obtain ⟨⟨hx, hb, hml, hown, hts⟩, hK, hI, hL, hA, hfr, hlo, hcs⟩ := id CX
  unfold f_L_isRoom_346 at h
  refine lv_istore (lv' := [(8, .int s0), (0, .ref (B 9 0 0)), (1, .ref (B 14 0 0)), (2, .ref (B 15 0 0)), (3, .ref (B 16 0 0)), (4, .ref (B 17 0 0)), (5, .ref (B 18 0 0)), (6, .int v6), (7, .int v7)]) hx hb dL_isRoom_346 hl (by decide) rfl (fun ls hl => ?_)
  refine lv_iload hx hb dL_isRoom_348 (lv_at hl 0 rfl) ?_
  refine lv_if_eq (tgt := 583) hx hb dL_isRoom_350 (by decide) (fun g1 => ?_) (fun g1 => ?_)
  · have h := wk_p g1 h
    refine lv_iconst (v := 0) hx hb dL_isRoom_583 (by decide) ?_
    exact RT _ _ _ _ _ _ (Or.inl rfl) h hP hS dL_isRoom_584
  · have h := wk_n g1 h
    refine lv_aload_n hx hb dL_isRoom_353 rfl (lv_at hl 1 rfl) ?_
    refine lv_iload hx hb dL_isRoom_354 (lv_at hl 7 rfl) ?_
    refine lv_bipush (v := 8) hx hb dL_isRoom_356 (by decide) ?_
    obtain ⟨r2, M3, er2, h⟩ := wk_cl_e h
    refine wk_cVi (As := [.int v6, .int 8]) (rest := []) ⟨hx, hb, hml, hown, hts⟩ (m_X3_roomOf l hI hL er2) (cwV 2 hts gL_isRoom_X3_roomOf rfl rfl rfl (by decide +kernel) ⟨Nat.le_trans (by decide) hfr, Nat.le_trans (by decide) hlo⟩) hK hP hS hA (wk_l9 hL 9 (by decide) (by decide)) wk_c9 rfl rfl hl.1 (lv_room (Nat.le_of_ble_eq_true rfl)) hcs dL_isRoom_358 (fun H locs hP hS => ?_)
    refine lv_iload hx hb dL_isRoom_361 (lv_at hl 8 rfl) ?_
    refine lv_icmp_ne (tgt := 583) hx hb dL_isRoom_363 (by decide) (fun g4 => ?_) (fun g4 => ?_)
    · have h := wk_n g4 h
      refine lv_iconst (v := 0) hx hb dL_isRoom_583 (by decide) ?_
      exact RT _ _ _ _ _ _ (Or.inl rfl) h hP hS dL_isRoom_584
    · have h := wk_p g4 h
      refine lv_aload_n hx hb dL_isRoom_366 rfl (lv_at hl 1 rfl) ?_
      refine lv_iload hx hb dL_isRoom_367 (lv_at hl 7 rfl) ?_
      refine lv_bipush (v := 9) hx hb dL_isRoom_369 (by decide) ?_
      obtain ⟨r5, M6, er5, h⟩ := wk_cl_e h
      refine wk_cVi (As := [.int v6, .int 9]) (rest := []) ⟨hx, hb, hml, hown, hts⟩ (m_X3_roomOf l hI hL er5) (cwV 2 hts gL_isRoom_X3_roomOf rfl rfl rfl (by decide +kernel) ⟨Nat.le_trans (by decide) hfr, Nat.le_trans (by decide) hlo⟩) hK hP hS hA (wk_l9 hL 9 (by decide) (by decide)) wk_c9 rfl rfl hl.1 (lv_room (Nat.le_of_ble_eq_true rfl)) hcs dL_isRoom_371 (fun H locs hP hS => ?_)
      refine lv_aload_n hx hb dL_isRoom_374 rfl (lv_at hl 4 rfl) ?_
      refine lv_bipush (v := 8) hx hb dL_isRoom_375 (by decide) ?_
      refine lv_iload hx hb dL_isRoom_377 (lv_at hl 7 rfl) ?_
      refine lv_imul hx hb dL_isRoom_379 ?_
      refine lv_iconst (v := 5) hx hb dL_isRoom_380 (by decide) ?_
      refine lv_iadd hx hb dL_isRoom_381 ?_
      obtain ⟨g7, h⟩ := wk_gd_e h
      refine wk_iald (j := ((8 * v6) + 5).toNatClampNeg) hx hb hK hP (wk_lL hL 16 (by decide) (by decide)) wk_c16 g7 rfl dL_isRoom_382 ?_
      refine lv_icmp_ne (tgt := 583) hx hb dL_isRoom_383 (by decide) (fun g8 => ?_) (fun g8 => ?_)
      · have h := wk_n g8 h
        refine lv_iconst (v := 0) hx hb dL_isRoom_583 (by decide) ?_
        exact RT _ _ _ _ _ _ (Or.inl rfl) h hP hS dL_isRoom_584
      · have h := wk_p g8 h
        refine lv_aload_n hx hb dL_isRoom_386 rfl (lv_at hl 1 rfl) ?_
        refine lv_iload hx hb dL_isRoom_387 (lv_at hl 7 rfl) ?_
        refine lv_bipush (v := 10) hx hb dL_isRoom_389 (by decide) ?_
        obtain ⟨r9, M10, er9, h⟩ := wk_cl_e h
        refine wk_cVi (As := [.int v6, .int 10]) (rest := []) ⟨hx, hb, hml, hown, hts⟩ (m_X3_roomOf l hI hL er9) (cwV 2 hts gL_isRoom_X3_roomOf rfl rfl rfl (by decide +kernel) ⟨Nat.le_trans (by decide) hfr, Nat.le_trans (by decide) hlo⟩) hK hP hS hA (wk_l9 hL 9 (by decide) (by decide)) wk_c9 rfl rfl hl.1 (lv_room (Nat.le_of_ble_eq_true rfl)) hcs dL_isRoom_391 (fun H locs hP hS => ?_)
        refine lv_aload_n hx hb dL_isRoom_394 rfl (lv_at hl 4 rfl) ?_
        refine lv_bipush (v := 8) hx hb dL_isRoom_395 (by decide) ?_
        refine lv_iload hx hb dL_isRoom_397 (lv_at hl 7 rfl) ?_
        refine lv_imul hx hb dL_isRoom_399 ?_
        refine lv_bipush (v := 6) hx hb dL_isRoom_400 (by decide) ?_
        refine lv_iadd hx hb dL_isRoom_402 ?_
        obtain ⟨g11, h⟩ := wk_gd_e h
        refine wk_iald (j := ((8 * v6) + 6).toNatClampNeg) hx hb hK hP (wk_lL hL 16 (by decide) (by decide)) wk_c16 g11 rfl dL_isRoom_403 ?_
        refine lv_icmp_ne (tgt := 583) hx hb dL_isRoom_404 (by decide) (fun g12 => ?_) (fun g12 => ?_)
        · have h := wk_n g12 h
          refine lv_iconst (v := 0) hx hb dL_isRoom_583 (by decide) ?_
          exact RT _ _ _ _ _ _ (Or.inl rfl) h hP hS dL_isRoom_584
        · have h := wk_p g12 h
          refine lv_aload_n hx hb dL_isRoom_407 rfl (lv_at hl 1 rfl) ?_
          refine lv_iload hx hb dL_isRoom_408 (lv_at hl 7 rfl) ?_
          refine lv_bipush (v := 11) hx hb dL_isRoom_410 (by decide) ?_
          obtain ⟨r13, M14, er13, h⟩ := wk_cl_e h
          refine wk_cVi (As := [.int v6, .int 11]) (rest := []) ⟨hx, hb, hml, hown, hts⟩ (m_X3_roomOf l hI hL er13) (cwV 2 hts gL_isRoom_X3_roomOf rfl rfl rfl (by decide +kernel) ⟨Nat.le_trans (by decide) hfr, Nat.le_trans (by decide) hlo⟩) hK hP hS hA (wk_l9 hL 9 (by decide) (by decide)) wk_c9 rfl rfl hl.1 (lv_room (Nat.le_of_ble_eq_true rfl)) hcs dL_isRoom_412 (fun H locs hP hS => ?_)
          refine lv_aload_n hx hb dL_isRoom_415 rfl (lv_at hl 4 rfl) ?_
          refine lv_bipush (v := 8) hx hb dL_isRoom_416 (by decide) ?_
          refine lv_iload hx hb dL_isRoom_418 (lv_at hl 7 rfl) ?_
          refine lv_imul hx hb dL_isRoom_420 ?_
          refine lv_bipush (v := 7) hx hb dL_isRoom_421 (by decide) ?_
          refine lv_iadd hx hb dL_isRoom_423 ?_
          obtain ⟨g15, h⟩ := wk_gd_e h
          refine wk_iald (j := ((8 * v6) + 7).toNatClampNeg) hx hb hK hP (wk_lL hL 16 (by decide) (by decide)) wk_c16 g15 rfl dL_isRoom_424 ?_
          refine lv_icmp_ne (tgt := 583) hx hb dL_isRoom_425 (by decide) (fun g16 => ?_) (fun g16 => ?_)
          · have h := wk_n g16 h
            refine lv_iconst (v := 0) hx hb dL_isRoom_583 (by decide) ?_
            exact RT _ _ _ _ _ _ (Or.inl rfl) h hP hS dL_isRoom_584
          · have h := wk_p g16 h
            refine lv_aload_n hx hb dL_isRoom_428 rfl (lv_at hl 1 rfl) ?_
            refine lv_iload hx hb dL_isRoom_429 (lv_at hl 7 rfl) ?_
            refine lv_bipush (v := 12) hx hb dL_isRoom_431 (by decide) ?_
            obtain ⟨r17, M18, er17, h⟩ := wk_cl_e h
            refine wk_cVi (As := [.int v6, .int 12]) (rest := []) ⟨hx, hb, hml, hown, hts⟩ (m_X3_roomOf l hI hL er17) (cwV 2 hts gL_isRoom_X3_roomOf rfl rfl rfl (by decide +kernel) ⟨Nat.le_trans (by decide) hfr, Nat.le_trans (by decide) hlo⟩) hK hP hS hA (wk_l9 hL 9 (by decide) (by decide)) wk_c9 rfl rfl hl.1 (lv_room (Nat.le_of_ble_eq_true rfl)) hcs dL_isRoom_433 (fun H locs hP hS => ?_)
            refine lv_aload_n hx hb dL_isRoom_436 rfl (lv_at hl 2 rfl) ?_
            refine lv_aload_n hx hb dL_isRoom_437 rfl (lv_at hl 3 rfl) ?_
            refine lv_aload_n hx hb dL_isRoom_438 rfl (lv_at hl 4 rfl) ?_
            refine lv_aload hx hb dL_isRoom_439 (lv_at hl 5 rfl) ?_
            refine lv_aload hx hb dL_isRoom_441 (lv_at hl 6 rfl) ?_
            refine lv_iload hx hb dL_isRoom_443 (lv_at hl 7 rfl) ?_
            obtain ⟨r19, M20, er19, h⟩ := wk_cl_e h
            refine wk_cSi (As := [.ref (B 14 0 0), .ref (B 15 0 0), .ref (B 16 0 0), .ref (B 17 0 0), .ref (B 18 0 0), .int v6]) (rest := [.int r17]) ⟨hx, hb, hml, hown, hts⟩ (m_L_called l hI hL er19) (va_cwS 6 hts gL_isRoom_L_called rfl rfl rfl (by decide +kernel) ⟨Nat.le_trans (by decide) hfr, Nat.le_trans (by decide) hlo⟩) hK hP hS hA rfl hl.1 (lv_room (Nat.le_of_ble_eq_true rfl)) hcs dL_isRoom_445 (fun H locs hP hS => ?_)
            refine lv_if_eq (tgt := 455) hx hb dL_isRoom_448 (by decide) (fun g21 => ?_) (fun g21 => ?_)
            · have h := wk_p g21 h
              refine lv_iconst (v := 0) hx hb dL_isRoom_455 (by decide) ?_
              exact w_L_isRoom_456 CX RT h (lv_sub hl [1, 4, 5, 7] rfl) hP hS
            · have h := wk_n g21 h
              refine lv_iconst (v := 1) hx hb dL_isRoom_451 (by decide) ?_
              refine lv_goto (tgt := 456) hx hb dL_isRoom_452 (by decide) ?_
              exact w_L_isRoom_456 CX RT h (lv_sub hl [1, 4, 5, 7] rfl) hP hS
set_option maxRecDepth 100000 in
set_option maxHeartbeats 4000000 in
theorem w_L_isRoom_345 {r0 : Int32} (CX : wk_X p l e R s m args below meth c cells slots Q cL_isRoom 10 RL wsL_isRoom D y B Lk A 3 73) (RT : wk_Rz p l e R s m args below meth c cells slots Q cL_isRoom D y B Lk A r0 MM) {v6 : Int32} {v7 : Int32} {M : wk_T} {H : Heap} {locs : List Loc} {ls : Array Slot} (h : f_L_isRoom_345 v6 v7 M = some (r0, MM)) (hl : lv_has ls 10 [(0, .ref (B 9 0 0)), (1, .ref (B 14 0 0)), (2, .ref (B 15 0 0)), (3, .ref (B 16 0 0)), (4, .ref (B 17 0 0)), (5, .ref (B 18 0 0)), (6, .int v6), (7, .int v7)]) (hP : wk_H D y B Lk M H) (hS : va_S A s.heap H locs) : W p l e R s m args below meth c H locs cells slots Q (F0 m 345 ls []) := by
  obtain ⟨⟨hx, hb, hml, hown, hts⟩, hK, hI, hL, hA, hfr, hlo, hcs⟩ := id CX
  unfold f_L_isRoom_345 at h
  refine lv_iconst (v := 0) hx hb dL_isRoom_345 (by decide) ?_
  exact w_L_isRoom_346 CX RT h (lv_sub hl [0, 1, 2, 3, 4, 5, 6, 7] rfl) hP hS
set_option maxRecDepth 100000 in
set_option maxHeartbeats 4000000 in
theorem w_L_isRoom_298 {r0 : Int32} (CX : wk_X p l e R s m args below meth c cells slots Q cL_isRoom 10 RL wsL_isRoom D y B Lk A 3 73) (RT : wk_Rz p l e R s m args below meth c cells slots Q cL_isRoom D y B Lk A r0 MM) {v6 : Int32} {v7 : Int32} {s0 : Int32} {s1 : Int32} {M : wk_T} {H : Heap} {locs : List Loc} {ls : Array Slot} (h : f_L_isRoom_298 v6 v7 s0 s1 M = some (r0, MM)) (hl : lv_has ls 10 [(0, .ref (B 9 0 0)), (1, .ref (B 14 0 0)), (2, .ref (B 15 0 0)), (3, .ref (B 16 0 0)), (4, .ref (B 17 0 0)), (5, .ref (B 18 0 0)), (6, .int v6), (7, .int v7)]) (hP : wk_H D y B Lk M H) (hS : va_S A s.heap H locs) : W p l e R s m args below meth c H locs cells slots Q (F0 m 298 ls [.int s1, .int s0]) := by
  obtain ⟨⟨hx, hb, hml, hown, hts⟩, hK, hI, hL, hA, hfr, hlo, hcs⟩ := id CX
  unfold f_L_isRoom_298 at h
  refine lv_icmp_ne (tgt := 345) hx hb dL_isRoom_298 (by decide) (fun g1 => ?_) (fun g1 => ?_)
  · have h := wk_n g1 h
    exact w_L_isRoom_345 CX RT h (lv_sub hl [0, 1, 2, 3, 4, 5, 6, 7] rfl) hP hS
  · have h := wk_p g1 h
    refine lv_aload_n hx hb dL_isRoom_301 rfl (lv_at hl 0 rfl) ?_
    refine lv_iload hx hb dL_isRoom_302 (lv_at hl 6 rfl) ?_
    refine lv_bipush (v := 6) hx hb dL_isRoom_304 (by decide) ?_
    obtain ⟨r2, M3, er2, h⟩ := wk_cl_e h
    refine wk_cVi (As := [.int v6, .int 6]) (rest := []) ⟨hx, hb, hml, hown, hts⟩ (m_X3_roomOf l hI hL er2) (cwV 2 hts gL_isRoom_X3_roomOf rfl rfl rfl (by decide +kernel) ⟨Nat.le_trans (by decide) hfr, Nat.le_trans (by decide) hlo⟩) hK hP hS hA (wk_l9 hL 9 (by decide) (by decide)) wk_c9 rfl rfl hl.1 (lv_room (Nat.le_of_ble_eq_true rfl)) hcs dL_isRoom_306 (fun H locs hP hS => ?_)
    refine lv_aload_n hx hb dL_isRoom_309 rfl (lv_at hl 3 rfl) ?_
    refine lv_bipush (v := 8) hx hb dL_isRoom_310 (by decide) ?_
    refine lv_iload hx hb dL_isRoom_312 (lv_at hl 6 rfl) ?_
    refine lv_imul hx hb dL_isRoom_314 ?_
    refine lv_iconst (v := 3) hx hb dL_isRoom_315 (by decide) ?_
    refine lv_iadd hx hb dL_isRoom_316 ?_
    obtain ⟨g4, h⟩ := wk_gd_e h
    refine wk_iald (j := ((8 * v6) + 3).toNatClampNeg) hx hb hK hP (wk_lL hL 16 (by decide) (by decide)) wk_c16 g4 rfl dL_isRoom_317 ?_
    refine lv_icmp_ne (tgt := 345) hx hb dL_isRoom_318 (by decide) (fun g5 => ?_) (fun g5 => ?_)
    · have h := wk_n g5 h
      exact w_L_isRoom_345 CX RT h (lv_sub hl [0, 1, 2, 3, 4, 5, 6, 7] rfl) hP hS
    · have h := wk_p g5 h
      refine lv_aload_n hx hb dL_isRoom_321 rfl (lv_at hl 0 rfl) ?_
      refine lv_iload hx hb dL_isRoom_322 (lv_at hl 6 rfl) ?_
      refine lv_bipush (v := 7) hx hb dL_isRoom_324 (by decide) ?_
      obtain ⟨r6, M7, er6, h⟩ := wk_cl_e h
      refine wk_cVi (As := [.int v6, .int 7]) (rest := []) ⟨hx, hb, hml, hown, hts⟩ (m_X3_roomOf l hI hL er6) (cwV 2 hts gL_isRoom_X3_roomOf rfl rfl rfl (by decide +kernel) ⟨Nat.le_trans (by decide) hfr, Nat.le_trans (by decide) hlo⟩) hK hP hS hA (wk_l9 hL 9 (by decide) (by decide)) wk_c9 rfl rfl hl.1 (lv_room (Nat.le_of_ble_eq_true rfl)) hcs dL_isRoom_326 (fun H locs hP hS => ?_)
      refine lv_aload_n hx hb dL_isRoom_329 rfl (lv_at hl 3 rfl) ?_
      refine lv_bipush (v := 8) hx hb dL_isRoom_330 (by decide) ?_
      refine lv_iload hx hb dL_isRoom_332 (lv_at hl 6 rfl) ?_
      refine lv_imul hx hb dL_isRoom_334 ?_
      refine lv_iconst (v := 4) hx hb dL_isRoom_335 (by decide) ?_
      refine lv_iadd hx hb dL_isRoom_336 ?_
      obtain ⟨g8, h⟩ := wk_gd_e h
      refine wk_iald (j := ((8 * v6) + 4).toNatClampNeg) hx hb hK hP (wk_lL hL 16 (by decide) (by decide)) wk_c16 g8 rfl dL_isRoom_337 ?_
      refine lv_icmp_ne (tgt := 345) hx hb dL_isRoom_338 (by decide) (fun g9 => ?_) (fun g9 => ?_)
      · have h := wk_n g9 h
        exact w_L_isRoom_345 CX RT h (lv_sub hl [0, 1, 2, 3, 4, 5, 6, 7] rfl) hP hS
      · have h := wk_p g9 h
        refine lv_iconst (v := 1) hx hb dL_isRoom_341 (by decide) ?_
        refine lv_goto (tgt := 346) hx hb dL_isRoom_342 (by decide) ?_
        exact w_L_isRoom_346 CX RT h (lv_sub hl [0, 1, 2, 3, 4, 5, 6, 7] rfl) hP hS
set_option maxRecDepth 100000 in
set_option maxHeartbeats 4000000 in
theorem w_L_isRoom_269 {r0 : Int32} (CX : wk_X p l e R s m args below meth c cells slots Q cL_isRoom 10 RL wsL_isRoom D y B Lk A 3 73) (RT : wk_Rz p l e R s m args below meth c cells slots Q cL_isRoom D y B Lk A r0 MM) {v6 : Int32} {v7 : Int32} {v9 : Int32} {s0 : Int32} {s1 : Int32} {M : wk_T} {H : Heap} {locs : List Loc} {ls : Array Slot} (h : f_L_isRoom_269 v6 v7 v9 s0 s1 M = some (r0, MM)) (hl : lv_has ls 10 [(0, .ref (B 9 0 0)), (1, .ref (B 14 0 0)), (2, .ref (B 15 0 0)), (3, .ref (B 16 0 0)), (4, .ref (B 17 0 0)), (5, .ref (B 18 0 0)), (6, .int v6), (7, .int v7), (9, .int v9)]) (hP : wk_H D y B Lk M H) (hS : va_S A s.heap H locs) : W p l e R s m args below meth c H locs cells slots Q (F0 m 269 ls [.int s1, .int s0]) := by
  obtain ⟨⟨hx, hb, hml, hown, hts⟩, hK, hI, hL, hA, hfr, hlo, hcs⟩ := id CX
  unfold f_L_isRoom_269 at h
  refine lv_icmp_ne (tgt := 345) hx hb dL_isRoom_269 (by decide) (fun g1 => ?_) (fun g1 => ?_)
  · have h := wk_n g1 h
    exact w_L_isRoom_345 CX RT h (lv_sub hl [0, 1, 2, 3, 4, 5, 6, 7] rfl) hP hS
  · have h := wk_p g1 h
    refine lv_aload_n hx hb dL_isRoom_272 rfl (lv_at hl 0 rfl) ?_
    refine lv_iload hx hb dL_isRoom_273 (lv_at hl 6 rfl) ?_
    refine lv_iconst (v := 5) hx hb dL_isRoom_275 (by decide) ?_
    obtain ⟨r2, M3, er2, h⟩ := wk_cl_e h
    refine wk_cVi (As := [.int v6, .int 5]) (rest := []) ⟨hx, hb, hml, hown, hts⟩ (m_X3_roomOf l hI hL er2) (cwV 2 hts gL_isRoom_X3_roomOf rfl rfl rfl (by decide +kernel) ⟨Nat.le_trans (by decide) hfr, Nat.le_trans (by decide) hlo⟩) hK hP hS hA (wk_l9 hL 9 (by decide) (by decide)) wk_c9 rfl rfl hl.1 (lv_room (Nat.le_of_ble_eq_true rfl)) hcs dL_isRoom_276 (fun H locs hP hS => ?_)
    refine lv_iload hx hb dL_isRoom_279 (lv_at hl 8 rfl) ?_
    refine lv_iconst (v := 2) hx hb dL_isRoom_281 (by decide) ?_
    refine lv_icmp_ne (tgt := 297) hx hb dL_isRoom_282 (by decide) (fun g4 => ?_) (fun g4 => ?_)
    · have h := wk_n g4 h
      refine lv_iconst (v := 0) hx hb dL_isRoom_297 (by decide) ?_
      exact w_L_isRoom_298 CX RT h (lv_sub hl [0, 1, 2, 3, 4, 5, 6, 7] rfl) hP hS
    · have h := wk_p g4 h
      refine lv_aload_n hx hb dL_isRoom_285 rfl (lv_at hl 3 rfl) ?_
      refine lv_bipush (v := 8) hx hb dL_isRoom_286 (by decide) ?_
      refine lv_iload hx hb dL_isRoom_288 (lv_at hl 6 rfl) ?_
      refine lv_imul hx hb dL_isRoom_290 ?_
      refine lv_iconst (v := 2) hx hb dL_isRoom_291 (by decide) ?_
      refine lv_iadd hx hb dL_isRoom_292 ?_
      obtain ⟨g5, h⟩ := wk_gd_e h
      refine wk_iald (j := ((8 * v6) + 2).toNatClampNeg) hx hb hK hP (wk_lL hL 16 (by decide) (by decide)) wk_c16 g5 rfl dL_isRoom_293 ?_
      refine lv_goto (tgt := 298) hx hb dL_isRoom_294 (by decide) ?_
      exact w_L_isRoom_298 CX RT h (lv_sub hl [0, 1, 2, 3, 4, 5, 6, 7] rfl) hP hS
set_option maxRecDepth 100000 in
set_option maxHeartbeats 4000000 in
theorem w_L_isRoom_238 {r0 : Int32} (CX : wk_X p l e R s m args below meth c cells slots Q cL_isRoom 10 RL wsL_isRoom D y B Lk A 3 73) (RT : wk_Rz p l e R s m args below meth c cells slots Q cL_isRoom D y B Lk A r0 MM) {v6 : Int32} {v7 : Int32} {v9 : Int32} {s0 : Int32} {s1 : Int32} {M : wk_T} {H : Heap} {locs : List Loc} {ls : Array Slot} (h : f_L_isRoom_238 v6 v7 v9 s0 s1 M = some (r0, MM)) (hl : lv_has ls 10 [(0, .ref (B 9 0 0)), (1, .ref (B 14 0 0)), (2, .ref (B 15 0 0)), (3, .ref (B 16 0 0)), (4, .ref (B 17 0 0)), (5, .ref (B 18 0 0)), (6, .int v6), (7, .int v7), (9, .int v9)]) (hP : wk_H D y B Lk M H) (hS : va_S A s.heap H locs) : W p l e R s m args below meth c H locs cells slots Q (F0 m 238 ls [.int s1, .int s0]) := by
  obtain ⟨⟨hx, hb, hml, hown, hts⟩, hK, hI, hL, hA, hfr, hlo, hcs⟩ := id CX
  unfold f_L_isRoom_238 at h
  refine lv_icmp_ne (tgt := 345) hx hb dL_isRoom_238 (by decide) (fun g1 => ?_) (fun g1 => ?_)
  · have h := wk_n g1 h
    exact w_L_isRoom_345 CX RT h (lv_sub hl [0, 1, 2, 3, 4, 5, 6, 7] rfl) hP hS
  · have h := wk_p g1 h
    refine lv_aload_n hx hb dL_isRoom_241 rfl (lv_at hl 0 rfl) ?_
    refine lv_iload hx hb dL_isRoom_242 (lv_at hl 6 rfl) ?_
    refine lv_iconst (v := 4) hx hb dL_isRoom_244 (by decide) ?_
    obtain ⟨r2, M3, er2, h⟩ := wk_cl_e h
    refine wk_cVi (As := [.int v6, .int 4]) (rest := []) ⟨hx, hb, hml, hown, hts⟩ (m_X3_roomOf l hI hL er2) (cwV 2 hts gL_isRoom_X3_roomOf rfl rfl rfl (by decide +kernel) ⟨Nat.le_trans (by decide) hfr, Nat.le_trans (by decide) hlo⟩) hK hP hS hA (wk_l9 hL 9 (by decide) (by decide)) wk_c9 rfl rfl hl.1 (lv_room (Nat.le_of_ble_eq_true rfl)) hcs dL_isRoom_245 (fun H locs hP hS => ?_)
    refine lv_iload hx hb dL_isRoom_248 (lv_at hl 8 rfl) ?_
    refine lv_iconst (v := 2) hx hb dL_isRoom_250 (by decide) ?_
    refine wk_irem hx hb (by decide) dL_isRoom_251 ?_
    refine lv_iconst (v := 1) hx hb dL_isRoom_252 (by decide) ?_
    refine lv_icmp_ne (tgt := 268) hx hb dL_isRoom_253 (by decide) (fun g4 => ?_) (fun g4 => ?_)
    · have h := wk_n g4 h
      refine lv_iconst (v := 0) hx hb dL_isRoom_268 (by decide) ?_
      exact w_L_isRoom_269 CX RT h (lv_sub hl [0, 1, 2, 3, 4, 5, 6, 7, 8] rfl) hP hS
    · have h := wk_p g4 h
      refine lv_aload_n hx hb dL_isRoom_256 rfl (lv_at hl 3 rfl) ?_
      refine lv_bipush (v := 8) hx hb dL_isRoom_257 (by decide) ?_
      refine lv_iload hx hb dL_isRoom_259 (lv_at hl 6 rfl) ?_
      refine lv_imul hx hb dL_isRoom_261 ?_
      refine lv_iconst (v := 1) hx hb dL_isRoom_262 (by decide) ?_
      refine lv_iadd hx hb dL_isRoom_263 ?_
      obtain ⟨g5, h⟩ := wk_gd_e h
      refine wk_iald (j := ((8 * v6) + 1).toNatClampNeg) hx hb hK hP (wk_lL hL 16 (by decide) (by decide)) wk_c16 g5 rfl dL_isRoom_264 ?_
      refine lv_goto (tgt := 269) hx hb dL_isRoom_265 (by decide) ?_
      exact w_L_isRoom_269 CX RT h (lv_sub hl [0, 1, 2, 3, 4, 5, 6, 7, 8] rfl) hP hS
set_option maxRecDepth 100000 in
set_option maxHeartbeats 4000000 in
theorem w_L_isRoom_200 {r0 : Int32} (CX : wk_X p l e R s m args below meth c cells slots Q cL_isRoom 10 RL wsL_isRoom D y B Lk A 3 73) (RT : wk_Rz p l e R s m args below meth c cells slots Q cL_isRoom D y B Lk A r0 MM) {v6 : Int32} {v7 : Int32} {v9 : Int32} {s0 : Int32} {s1 : Int32} {M : wk_T} {H : Heap} {locs : List Loc} {ls : Array Slot} (h : f_L_isRoom_200 v6 v7 v9 s0 s1 M = some (r0, MM)) (hl : lv_has ls 10 [(0, .ref (B 9 0 0)), (1, .ref (B 14 0 0)), (2, .ref (B 15 0 0)), (3, .ref (B 16 0 0)), (4, .ref (B 17 0 0)), (5, .ref (B 18 0 0)), (6, .int v6), (7, .int v7), (9, .int v9)]) (hP : wk_H D y B Lk M H) (hS : va_S A s.heap H locs) : W p l e R s m args below meth c H locs cells slots Q (F0 m 200 ls [.int s1, .int s0]) := by
  obtain ⟨⟨hx, hb, hml, hown, hts⟩, hK, hI, hL, hA, hfr, hlo, hcs⟩ := id CX
  unfold f_L_isRoom_200 at h
  refine lv_icmp_ne (tgt := 345) hx hb dL_isRoom_200 (by decide) (fun g1 => ?_) (fun g1 => ?_)
  · have h := wk_n g1 h
    exact w_L_isRoom_345 CX RT h (lv_sub hl [0, 1, 2, 3, 4, 5, 6, 7] rfl) hP hS
  · have h := wk_p g1 h
    refine lv_aload_n hx hb dL_isRoom_203 rfl (lv_at hl 0 rfl) ?_
    refine lv_iload hx hb dL_isRoom_204 (lv_at hl 6 rfl) ?_
    refine lv_iconst (v := 3) hx hb dL_isRoom_206 (by decide) ?_
    obtain ⟨r2, M3, er2, h⟩ := wk_cl_e h
    refine wk_cVi (As := [.int v6, .int 3]) (rest := []) ⟨hx, hb, hml, hown, hts⟩ (m_X3_roomOf l hI hL er2) (cwV 2 hts gL_isRoom_X3_roomOf rfl rfl rfl (by decide +kernel) ⟨Nat.le_trans (by decide) hfr, Nat.le_trans (by decide) hlo⟩) hK hP hS hA (wk_l9 hL 9 (by decide) (by decide)) wk_c9 rfl rfl hl.1 (lv_room (Nat.le_of_ble_eq_true rfl)) hcs dL_isRoom_207 (fun H locs hP hS => ?_)
    refine lv_aload_n hx hb dL_isRoom_210 rfl (lv_at hl 2 rfl) ?_
    refine lv_bipush (v := 8) hx hb dL_isRoom_211 (by decide) ?_
    refine lv_iload hx hb dL_isRoom_213 (lv_at hl 6 rfl) ?_
    refine lv_imul hx hb dL_isRoom_215 ?_
    refine lv_bipush (v := 7) hx hb dL_isRoom_216 (by decide) ?_
    refine lv_iadd hx hb dL_isRoom_218 ?_
    obtain ⟨g4, h⟩ := wk_gd_e h
    refine wk_iald (j := ((8 * v6) + 7).toNatClampNeg) hx hb hK hP (wk_lL hL 15 (by decide) (by decide)) wk_c15 g4 rfl dL_isRoom_219 ?_
    refine lv_if_ge (tgt := 228) hx hb dL_isRoom_220 (by decide) (fun g5 => ?_) (fun g5 => ?_)
    · have h := wk_p g5 h
      refine lv_aload_n hx hb dL_isRoom_228 rfl (lv_at hl 2 rfl) ?_
      refine lv_bipush (v := 8) hx hb dL_isRoom_229 (by decide) ?_
      refine lv_iload hx hb dL_isRoom_231 (lv_at hl 6 rfl) ?_
      refine lv_imul hx hb dL_isRoom_233 ?_
      refine lv_bipush (v := 7) hx hb dL_isRoom_234 (by decide) ?_
      refine lv_iadd hx hb dL_isRoom_236 ?_
      obtain ⟨g6, h⟩ := wk_gd_e h
      refine wk_iald (j := ((8 * v6) + 7).toNatClampNeg) hx hb hK hP (wk_lL hL 15 (by decide) (by decide)) wk_c15 g6 rfl dL_isRoom_237 ?_
      exact w_L_isRoom_238 CX RT h (lv_sub hl [0, 1, 2, 3, 4, 5, 6, 7, 8] rfl) hP hS
    · have h := wk_n g5 h
      refine lv_bipush (v := (-4)) hx hb dL_isRoom_223 (by decide) ?_
      refine lv_goto (tgt := 238) hx hb dL_isRoom_225 (by decide) ?_
      exact w_L_isRoom_238 CX RT h (lv_sub hl [0, 1, 2, 3, 4, 5, 6, 7, 8] rfl) hP hS
set_option maxRecDepth 100000 in
set_option maxHeartbeats 4000000 in
theorem w_L_isRoom_122 {r0 : Int32} (CX : wk_X p l e R s m args below meth c cells slots Q cL_isRoom 10 RL wsL_isRoom D y B Lk A 3 73) (RT : wk_Rz p l e R s m args below meth c cells slots Q cL_isRoom D y B Lk A r0 MM) {v6 : Int32} {v7 : Int32} {v8 : Int32} {M : wk_T} {H : Heap} {locs : List Loc} {ls : Array Slot} (h : f_L_isRoom_122 v6 v7 v8 M = some (r0, MM)) (hl : lv_has ls 10 [(0, .ref (B 9 0 0)), (1, .ref (B 14 0 0)), (2, .ref (B 15 0 0)), (3, .ref (B 16 0 0)), (4, .ref (B 17 0 0)), (5, .ref (B 18 0 0)), (6, .int v6), (7, .int v7), (8, .int v8)]) (hP : wk_H D y B Lk M H) (hS : va_S A s.heap H locs) : W p l e R s m args below meth c H locs cells slots Q (F0 m 122 ls []) := by
  obtain ⟨⟨hx, hb, hml, hown, hts⟩, hK, hI, hL, hA, hfr, hlo, hcs⟩ := id CX
  unfold f_L_isRoom_122 at h
  refine lv_aload_n hx hb dL_isRoom_122 rfl (lv_at hl 3 rfl) ?_
  refine lv_bipush (v := 8) hx hb dL_isRoom_123 (by decide) ?_
  refine lv_iload hx hb dL_isRoom_125 (lv_at hl 6 rfl) ?_
  refine lv_imul hx hb dL_isRoom_127 ?_
  obtain ⟨g1, h⟩ := wk_gd_e h
  refine wk_iald (j := (8 * v6).toNatClampNeg) hx hb hK hP (wk_lL hL 16 (by decide) (by decide)) wk_c16 g1 rfl dL_isRoom_128 ?_
  obtain ⟨x2, ex2, h⟩ := wk_lt_e h
  refine wk_topi ex2 ?_
  refine lv_istore (lv' := [(9, .int x2), (0, .ref (B 9 0 0)), (1, .ref (B 14 0 0)), (2, .ref (B 15 0 0)), (3, .ref (B 16 0 0)), (4, .ref (B 17 0 0)), (5, .ref (B 18 0 0)), (6, .int v6), (7, .int v7), (8, .int v8)]) hx hb dL_isRoom_129 hl (by decide) rfl (fun ls hl => ?_)
  refine lv_iload hx hb dL_isRoom_131 (lv_at hl 9 rfl) ?_
  refine lv_if_eq (tgt := 345) hx hb dL_isRoom_133 (by decide) (fun g3 => ?_) (fun g3 => ?_)
  · have h := wk_p g3 h
    exact w_L_isRoom_345 CX RT h (lv_sub hl [1, 2, 3, 4, 5, 6, 7, 8] rfl) hP hS
  · have h := wk_n g3 h
    refine lv_aload_n hx hb dL_isRoom_136 rfl (lv_at hl 1 rfl) ?_
    refine lv_iload hx hb dL_isRoom_137 (lv_at hl 7 rfl) ?_
    refine lv_iconst (v := 0) hx hb dL_isRoom_139 (by decide) ?_
    obtain ⟨r4, M5, er4, h⟩ := wk_cl_e h
    refine wk_cVi (As := [.int v6, .int 0]) (rest := []) ⟨hx, hb, hml, hown, hts⟩ (m_X3_roomOf l hI hL er4) (cwV 2 hts gL_isRoom_X3_roomOf rfl rfl rfl (by decide +kernel) ⟨Nat.le_trans (by decide) hfr, Nat.le_trans (by decide) hlo⟩) hK hP hS hA (wk_l9 hL 9 (by decide) (by decide)) wk_c9 rfl rfl hl.1 (lv_room (Nat.le_of_ble_eq_true rfl)) hcs dL_isRoom_140 (fun H locs hP hS => ?_)
    refine lv_aload_n hx hb dL_isRoom_143 rfl (lv_at hl 3 rfl) ?_
    refine lv_bipush (v := 8) hx hb dL_isRoom_144 (by decide) ?_
    refine lv_iload hx hb dL_isRoom_146 (lv_at hl 7 rfl) ?_
    refine lv_imul hx hb dL_isRoom_148 ?_
    obtain ⟨g6, h⟩ := wk_gd_e h
    refine wk_iald (j := (8 * v6).toNatClampNeg) hx hb hK hP (wk_lL hL 15 (by decide) (by decide)) wk_c15 g6 rfl dL_isRoom_149 ?_
    refine lv_icmp_ne (tgt := 345) hx hb dL_isRoom_150 (by decide) (fun g7 => ?_) (fun g7 => ?_)
    · have h := wk_n g7 h
      exact w_L_isRoom_345 CX RT h (lv_sub hl [1, 2, 3, 4, 5, 6, 7, 8] rfl) hP hS
    · have h := wk_p g7 h
      refine lv_aload_n hx hb dL_isRoom_153 rfl (lv_at hl 1 rfl) ?_
      refine lv_iload hx hb dL_isRoom_154 (lv_at hl 7 rfl) ?_
      refine lv_iconst (v := 1) hx hb dL_isRoom_156 (by decide) ?_
      obtain ⟨r8, M9, er8, h⟩ := wk_cl_e h
      refine wk_cVi (As := [.int v6, .int 1]) (rest := []) ⟨hx, hb, hml, hown, hts⟩ (m_X3_roomOf l hI hL er8) (cwV 2 hts gL_isRoom_X3_roomOf rfl rfl rfl (by decide +kernel) ⟨Nat.le_trans (by decide) hfr, Nat.le_trans (by decide) hlo⟩) hK hP hS hA (wk_l9 hL 9 (by decide) (by decide)) wk_c9 rfl rfl hl.1 (lv_room (Nat.le_of_ble_eq_true rfl)) hcs dL_isRoom_157 (fun H locs hP hS => ?_)
      refine lv_iload hx hb dL_isRoom_160 (lv_at hl 0 rfl) ?_
      refine lv_icmp_ne (tgt := 345) hx hb dL_isRoom_162 (by decide) (fun g10 => ?_) (fun g10 => ?_)
      · have h := wk_n g10 h
        exact w_L_isRoom_345 CX RT h (lv_sub hl [1, 2, 3, 4, 5, 6, 7, 8] rfl) hP hS
      · have h := wk_p g10 h
        refine lv_aload_n hx hb dL_isRoom_165 rfl (lv_at hl 1 rfl) ?_
        refine lv_iload hx hb dL_isRoom_166 (lv_at hl 7 rfl) ?_
        refine lv_iconst (v := 2) hx hb dL_isRoom_168 (by decide) ?_
        obtain ⟨r11, M12, er11, h⟩ := wk_cl_e h
        refine wk_cVi (As := [.int v6, .int 2]) (rest := []) ⟨hx, hb, hml, hown, hts⟩ (m_X3_roomOf l hI hL er11) (cwV 2 hts gL_isRoom_X3_roomOf rfl rfl rfl (by decide +kernel) ⟨Nat.le_trans (by decide) hfr, Nat.le_trans (by decide) hlo⟩) hK hP hS hA (wk_l9 hL 9 (by decide) (by decide)) wk_c9 rfl rfl hl.1 (lv_room (Nat.le_of_ble_eq_true rfl)) hcs dL_isRoom_169 (fun H locs hP hS => ?_)
        refine lv_aload_n hx hb dL_isRoom_172 rfl (lv_at hl 3 rfl) ?_
        refine lv_bipush (v := 8) hx hb dL_isRoom_173 (by decide) ?_
        refine lv_iload hx hb dL_isRoom_175 (lv_at hl 7 rfl) ?_
        refine lv_imul hx hb dL_isRoom_177 ?_
        refine lv_bipush (v := 6) hx hb dL_isRoom_178 (by decide) ?_
        refine lv_iadd hx hb dL_isRoom_180 ?_
        obtain ⟨g13, h⟩ := wk_gd_e h
        refine wk_iald (j := ((8 * v6) + 6).toNatClampNeg) hx hb hK hP (wk_lL hL 15 (by decide) (by decide)) wk_c15 g13 rfl dL_isRoom_181 ?_
        refine lv_if_ge (tgt := 190) hx hb dL_isRoom_182 (by decide) (fun g14 => ?_) (fun g14 => ?_)
        · have h := wk_p g14 h
          refine lv_aload_n hx hb dL_isRoom_190 rfl (lv_at hl 3 rfl) ?_
          refine lv_bipush (v := 8) hx hb dL_isRoom_191 (by decide) ?_
          refine lv_iload hx hb dL_isRoom_193 (lv_at hl 7 rfl) ?_
          refine lv_imul hx hb dL_isRoom_195 ?_
          refine lv_bipush (v := 6) hx hb dL_isRoom_196 (by decide) ?_
          refine lv_iadd hx hb dL_isRoom_198 ?_
          obtain ⟨g15, h⟩ := wk_gd_e h
          refine wk_iald (j := ((8 * v6) + 6).toNatClampNeg) hx hb hK hP (wk_lL hL 15 (by decide) (by decide)) wk_c15 g15 rfl dL_isRoom_199 ?_
          exact w_L_isRoom_200 CX RT h (lv_sub hl [1, 2, 3, 4, 5, 6, 7, 8, 0] rfl) hP hS
        · have h := wk_n g14 h
          refine lv_bipush (v := (-4)) hx hb dL_isRoom_185 (by decide) ?_
          refine lv_goto (tgt := 200) hx hb dL_isRoom_187 (by decide) ?_
          exact w_L_isRoom_200 CX RT h (lv_sub hl [1, 2, 3, 4, 5, 6, 7, 8, 0] rfl) hP hS
set_option maxRecDepth 100000 in
set_option maxHeartbeats 4000000 in
theorem w_L_isRoom_48 {r0 : Int32} (CX : wk_X p l e R s m args below meth c cells slots Q cL_isRoom 10 RL wsL_isRoom D y B Lk A 3 73) (RT : wk_Rz p l e R s m args below meth c cells slots Q cL_isRoom D y B Lk A r0 MM) : ∀ (n : Nat) (v6 : Int32) (v7 : Int32) (v8 : Int32) (v9 : Int32) (M : wk_T) (H : Heap) (locs : List Loc) (ls : Array Slot), f_L_isRoom_48 n v6 v7 v8 v9 M = some (r0, MM) → lv_has ls 10 [(0, .ref (B 9 0 0)), (1, .ref (B 14 0 0)), (2, .ref (B 15 0 0)), (3, .ref (B 16 0 0)), (4, .ref (B 17 0 0)), (5, .ref (B 18 0 0)), (6, .int v6), (7, .int v7), (8, .int v8), (9, .int v9)] → wk_H D y B Lk M H → va_S A s.heap H locs → W p l e R s m args below meth c H locs cells slots Q (F0 m 48 ls []) := by
  obtain ⟨⟨hx, hb, hml, hown, hts⟩, hK, hI, hL, hA, hfr, hlo, hcs⟩ := id CX
  intro n
  induction n with
  | zero =>
    intro v6 v7 v8 v9 M H locs ls h
    exact absurd h (by rw [f_L_isRoom_48]; exact fun z => nomatch z)
  | succ n ih =>
    intro v6 v7 v8 v9 M H locs ls h hl hP hS
    rw [f_L_isRoom_48] at h
    refine lv_iload hx hb dL_isRoom_48 (lv_at hl 9 rfl) ?_
    refine lv_iconst (v := 5) hx hb dL_isRoom_50 (by decide) ?_
    refine lv_icmp_ge (tgt := 122) hx hb dL_isRoom_51 (by decide) (fun g1 => ?_) (fun g1 => ?_)
    · have h := wk_p g1 h
      exact w_L_isRoom_122 CX RT h (lv_sub hl [0, 1, 2, 3, 4, 5, 6, 7, 8] rfl) hP hS
    · have h := wk_n g1 h
      refine lv_iload hx hb dL_isRoom_54 (lv_at hl 8 rfl) ?_
      refine lv_if_eq (tgt := 122) hx hb dL_isRoom_56 (by decide) (fun g2 => ?_) (fun g2 => ?_)
      · have h := wk_p g2 h
        exact w_L_isRoom_122 CX RT h (lv_sub hl [0, 1, 2, 3, 4, 5, 6, 7, 8] rfl) hP hS
      · have h := wk_n g2 h
        refine lv_aload_n hx hb dL_isRoom_59 rfl (lv_at hl 0 rfl) ?_
        refine lv_iload hx hb dL_isRoom_60 (lv_at hl 6 rfl) ?_
        refine lv_iload hx hb dL_isRoom_62 (lv_at hl 9 rfl) ?_
        obtain ⟨r3, M4, er3, h⟩ := wk_cl_e h
        refine wk_cVi (As := [.int v6, .int v9]) (rest := []) ⟨hx, hb, hml, hown, hts⟩ (m_X3_costOf l hI hL er3) (cwV 2 hts gL_isRoom_X3_costOf rfl rfl rfl (by decide +kernel) ⟨Nat.le_trans (by decide) hfr, Nat.le_trans (by decide) hlo⟩) hK hP hS hA (wk_l9 hL 9 (by decide) (by decide)) wk_c9 rfl rfl hl.1 (lv_room (Nat.le_of_ble_eq_true rfl)) hcs dL_isRoom_64 (fun H locs hP hS => ?_)
        refine lv_aload_n hx hb dL_isRoom_67 rfl (lv_at hl 2 rfl) ?_
        refine lv_bipush (v := 8) hx hb dL_isRoom_68 (by decide) ?_
        refine lv_iload hx hb dL_isRoom_70 (lv_at hl 6 rfl) ?_
        refine lv_imul hx hb dL_isRoom_72 ?_
        refine lv_iconst (v := 1) hx hb dL_isRoom_73 (by decide) ?_
        refine lv_iadd hx hb dL_isRoom_74 ?_
        refine lv_iload hx hb dL_isRoom_75 (lv_at hl 9 rfl) ?_
        refine lv_iadd hx hb dL_isRoom_77 ?_
        obtain ⟨g5, h⟩ := wk_gd_e h
        refine wk_iald (j := (((8 * v6) + 1) + v9).toNatClampNeg) hx hb hK hP (wk_lL hL 15 (by decide) (by decide)) wk_c15 g5 rfl dL_isRoom_78 ?_
        refine lv_icmp_ne (tgt := 113) hx hb dL_isRoom_79 (by decide) (fun g6 => ?_) (fun g6 => ?_)
        · have h := wk_n g6 h
          exact w_L_isRoom_113 CX RT ih h (lv_sub hl [0, 1, 2, 3, 4, 5, 6, 7, 9] rfl) hP hS
        · have h := wk_p g6 h
          refine lv_iload hx hb dL_isRoom_82 (lv_at hl 9 rfl) ?_
          refine lv_iconst (v := 4) hx hb dL_isRoom_84 (by decide) ?_
          refine lv_icmp_eq (tgt := 109) hx hb dL_isRoom_85 (by decide) (fun g7 => ?_) (fun g7 => ?_)
          · have h := wk_p g7 h
            exact w_L_isRoom_109 CX RT ih h (lv_sub hl [0, 1, 2, 3, 4, 5, 6, 7, 9] rfl) hP hS
          · have h := wk_n g7 h
            refine lv_aload_n hx hb dL_isRoom_88 rfl (lv_at hl 0 rfl) ?_
            refine lv_iload hx hb dL_isRoom_89 (lv_at hl 6 rfl) ?_
            refine lv_iload hx hb dL_isRoom_91 (lv_at hl 9 rfl) ?_
            obtain ⟨r8, M9, er8, h⟩ := wk_cl_e h
            refine wk_cVi (As := [.int v6, .int v9]) (rest := []) ⟨hx, hb, hml, hown, hts⟩ (m_X3_energy l hI hL er8) (cwV 2 hts gL_isRoom_X3_energy rfl rfl rfl (by decide +kernel) ⟨Nat.le_trans (by decide) hfr, Nat.le_trans (by decide) hlo⟩) hK hP hS hA (wk_l9 hL 9 (by decide) (by decide)) wk_c9 rfl rfl hl.1 (lv_room (Nat.le_of_ble_eq_true rfl)) hcs dL_isRoom_93 (fun H locs hP hS => ?_)
            refine lv_aload hx hb dL_isRoom_96 (lv_at hl 4 rfl) ?_
            refine lv_iconst (v := 4) hx hb dL_isRoom_98 (by decide) ?_
            refine lv_iload hx hb dL_isRoom_99 (lv_at hl 6 rfl) ?_
            refine lv_imul hx hb dL_isRoom_101 ?_
            refine lv_iload hx hb dL_isRoom_102 (lv_at hl 9 rfl) ?_
            refine lv_iadd hx hb dL_isRoom_104 ?_
            obtain ⟨g10, h⟩ := wk_gd_e h
            refine wk_iald (j := ((4 * v6) + v9).toNatClampNeg) hx hb hK hP (wk_lL hL 17 (by decide) (by decide)) wk_c17 g10 rfl dL_isRoom_105 ?_
            refine lv_icmp_ne (tgt := 113) hx hb dL_isRoom_106 (by decide) (fun g11 => ?_) (fun g11 => ?_)
            · have h := wk_n g11 h
              exact w_L_isRoom_113 CX RT ih h (lv_sub hl [0, 1, 2, 3, 4, 5, 6, 7, 9] rfl) hP hS
            · have h := wk_p g11 h
              exact w_L_isRoom_109 CX RT ih h (lv_sub hl [0, 1, 2, 3, 4, 5, 6, 7, 9] rfl) hP hS
set_option maxRecDepth 100000 in
set_option maxHeartbeats 4000000 in
theorem w_L_isRoom_9 {r0 : Int32} (CX : wk_X p l e R s m args below meth c cells slots Q cL_isRoom 10 RL wsL_isRoom D y B Lk A 3 73) (RT : wk_Rz p l e R s m args below meth c cells slots Q cL_isRoom D y B Lk A r0 MM) : ∀ (n : Nat) (v6 : Int32) (v7 : Int32) (v8 : Int32) (v9 : Int32) (M : wk_T) (H : Heap) (locs : List Loc) (ls : Array Slot), f_L_isRoom_9 n v6 v7 v8 v9 M = some (r0, MM) → lv_has ls 10 [(0, .ref (B 9 0 0)), (1, .ref (B 14 0 0)), (2, .ref (B 15 0 0)), (3, .ref (B 16 0 0)), (4, .ref (B 17 0 0)), (5, .ref (B 18 0 0)), (6, .int v6), (7, .int v7), (8, .int v8), (9, .int v9)] → wk_H D y B Lk M H → va_S A s.heap H locs → W p l e R s m args below meth c H locs cells slots Q (F0 m 9 ls []) := by
  obtain ⟨⟨hx, hb, hml, hown, hts⟩, hK, hI, hL, hA, hfr, hlo, hcs⟩ := id CX
  intro n
  induction n with
  | zero =>
    intro v6 v7 v8 v9 M H locs ls h
    exact absurd h (by rw [f_L_isRoom_9]; exact fun z => nomatch z)
  | succ n ih =>
    intro v6 v7 v8 v9 M H locs ls h hl hP hS
    rw [f_L_isRoom_9] at h
    refine lv_iload hx hb dL_isRoom_9 (lv_at hl 9 rfl) ?_
    refine lv_aload_n hx hb dL_isRoom_11 rfl (lv_at hl 1 rfl) ?_
    refine lv_iconst (v := 1) hx hb dL_isRoom_12 (by decide) ?_
    refine wk_iald (j := 1) hx hb hK hP (wk_lL hL 14 (by decide) (by decide)) wk_c14 (by decide) (by decide) dL_isRoom_13 ?_
    refine lv_icmp_ge (tgt := 45) hx hb dL_isRoom_14 (by decide) (fun g1 => ?_) (fun g1 => ?_)
    · have h := wk_p g1 h
      refine lv_iconst (v := 0) hx hb dL_isRoom_45 (by decide) ?_
      refine lv_istore (lv' := [(9, .int 0), (0, .ref (B 9 0 0)), (1, .ref (B 14 0 0)), (2, .ref (B 15 0 0)), (3, .ref (B 16 0 0)), (4, .ref (B 17 0 0)), (5, .ref (B 18 0 0)), (6, .int v6), (7, .int v7), (8, .int v8)]) hx hb dL_isRoom_46 hl (by decide) rfl (fun ls hl => ?_)
      exact w_L_isRoom_48 CX RT wk_fuel _ _ _ _ _ _ _ _ h (lv_sub hl [1, 2, 3, 4, 5, 6, 7, 8, 9, 0] rfl) hP hS
    · have h := wk_n g1 h
      refine lv_iload hx hb dL_isRoom_17 (lv_at hl 7 rfl) ?_
      refine lv_aload hx hb dL_isRoom_19 (lv_at hl 5 rfl) ?_
      refine lv_iconst (v := 3) hx hb dL_isRoom_21 (by decide) ?_
      refine lv_iload hx hb dL_isRoom_22 (lv_at hl 9 rfl) ?_
      refine lv_imul hx hb dL_isRoom_24 ?_
      obtain ⟨g2, h⟩ := wk_gd_e h
      refine wk_iald (j := (3 * v9).toNatClampNeg) hx hb hK hP (wk_lL hL 18 (by decide) (by decide)) wk_c18 g2 rfl dL_isRoom_25 ?_
      refine lv_iload hx hb dL_isRoom_26 (lv_at hl 6 rfl) ?_
      refine lv_icmp_ne (tgt := 35) hx hb dL_isRoom_28 (by decide) (fun g3 => ?_) (fun g3 => ?_)
      · have h := wk_n g3 h
        refine lv_iconst (v := 0) hx hb dL_isRoom_35 (by decide) ?_
        exact w_L_isRoom_36 CX RT ih h (lv_sub hl [0, 1, 2, 3, 4, 5, 6, 8, 9] rfl) hP hS
      · have h := wk_p g3 h
        refine lv_iconst (v := 1) hx hb dL_isRoom_31 (by decide) ?_
        refine lv_goto (tgt := 36) hx hb dL_isRoom_32 (by decide) ?_
        exact w_L_isRoom_36 CX RT ih h (lv_sub hl [0, 1, 2, 3, 4, 5, 6, 8, 9] rfl) hP hS
set_option maxRecDepth 100000 in
set_option maxHeartbeats 4000000 in
theorem w_L_isRoom_0 {r0 : Int32} (CX : wk_X p l e R s m args below meth c cells slots Q cL_isRoom 10 RL wsL_isRoom D y B Lk A 3 73) (RT : wk_Rz p l e R s m args below meth c cells slots Q cL_isRoom D y B Lk A r0 MM) {v6 : Int32} {M : wk_T} {H : Heap} {locs : List Loc} {ls : Array Slot} (h : f_L_isRoom v6 M = some (r0, MM)) (hl : lv_has ls 10 [(0, .ref (B 9 0 0)), (1, .ref (B 14 0 0)), (2, .ref (B 15 0 0)), (3, .ref (B 16 0 0)), (4, .ref (B 17 0 0)), (5, .ref (B 18 0 0)), (6, .int v6)]) (hP : wk_H D y B Lk M H) (hS : va_S A s.heap H locs) : W p l e R s m args below meth c H locs cells slots Q (F0 m 0 ls []) := by
  obtain ⟨⟨hx, hb, hml, hown, hts⟩, hK, hI, hL, hA, hfr, hlo, hcs⟩ := id CX
  unfold f_L_isRoom at h
  refine lv_iconst (v := 0) hx hb dL_isRoom_0 (by decide) ?_
  refine lv_istore (lv' := [(7, .int 0), (0, .ref (B 9 0 0)), (1, .ref (B 14 0 0)), (2, .ref (B 15 0 0)), (3, .ref (B 16 0 0)), (4, .ref (B 17 0 0)), (5, .ref (B 18 0 0)), (6, .int v6)]) hx hb dL_isRoom_1 hl (by decide) rfl (fun ls hl => ?_)
  refine lv_iconst (v := 1) hx hb dL_isRoom_3 (by decide) ?_
  refine lv_istore (lv' := [(8, .int 1), (7, .int 0), (0, .ref (B 9 0 0)), (1, .ref (B 14 0 0)), (2, .ref (B 15 0 0)), (3, .ref (B 16 0 0)), (4, .ref (B 17 0 0)), (5, .ref (B 18 0 0)), (6, .int v6)]) hx hb dL_isRoom_4 hl (by decide) rfl (fun ls hl => ?_)
  refine lv_iconst (v := 0) hx hb dL_isRoom_6 (by decide) ?_
  refine lv_istore (lv' := [(9, .int 0), (8, .int 1), (7, .int 0), (0, .ref (B 9 0 0)), (1, .ref (B 14 0 0)), (2, .ref (B 15 0 0)), (3, .ref (B 16 0 0)), (4, .ref (B 17 0 0)), (5, .ref (B 18 0 0)), (6, .int v6)]) hx hb dL_isRoom_7 hl (by decide) rfl (fun ls hl => ?_)
  exact w_L_isRoom_9 CX RT wk_fuel _ _ _ _ _ _ _ _ h (lv_sub hl [3, 4, 5, 6, 7, 8, 9, 2, 1, 0] rfl) hP hS
set_option maxRecDepth 100000 in
set_option maxHeartbeats 4000000 in
theorem m_L_isRoom (l : Launch) {D : va_G} {y : Nat → ClassId} {B : Nat → Nat → Nat → Nat} {Lk : Nat → Nat → Nat → Prop} (hI : wk_I B Lk) (hL : wk_L Lk) {v6 : Int32} {M : wk_T} {r0 : Int32} {MM : wk_T} (hf : f_L_isRoom v6 M = some (r0, MM)) : wk_Mi l yL_isRoom wsL_isRoom 3 73 D y B Lk [.ref (B 9 0 0), .ref (B 14 0 0), .ref (B 15 0 0), .ref (B 16 0 0), .ref (B 17 0 0), .ref (B 18 0 0), .int v6] M r0 MM :=
  wk_ofI (own := RL) (bytes := cL_isRoom) (maxL := 10) (ret := some .boolean) (by decide +kernel) rfl rfl (Or.inr rfl) (Nat.le_of_ble_eq_true rfl) hI hL (fun p e s m args below meth c ls CX RTi RTz hl hP hS => w_L_isRoom_0 CX (RTz rfl) hf hl hP hS)
end WP20
