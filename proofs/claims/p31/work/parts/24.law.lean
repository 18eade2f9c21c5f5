section WP24
variable {p : Program} {l : Launch} {e : Env} {s : State} {m : MethodId} {below : List Frame} {meth : Method} {c : Code} {Q : State → Prop}
variable {D : va_G} {y : Nat → ClassId} {B : Nat → Nat → Nat → Nat} {Lk : Nat → Nat → Nat → Prop} {MM : wk_T}
def f_L_law_200 (xs : Nat → Int32) (Lx : Nat) (k60 : Int32 → Int32 → wk_T → Option (Int32 × wk_T)) (v8 : Int32) (s0 : Int32) (M : wk_T) : Option (Int32 × wk_T) := wk_lt (v8 + 1) (fun x1 => (k60 s0 x1 M))
def f_L_law_289 (xs : Nat → Int32) (Lx : Nat) (k226 : Int32 → Int32 → Int32 → wk_T → Option (Int32 × wk_T)) (v8 : Int32) (v9 : Int32) (s0 : Int32) (M : wk_T) : Option (Int32 × wk_T) := wk_lt (v9 + 1) (fun x1 => (k226 s0 v8 x1 M))
def f_L_law_288 (xs : Nat → Int32) (Lx : Nat) (k226 : Int32 → Int32 → Int32 → wk_T → Option (Int32 × wk_T)) (v8 : Int32) (v9 : Int32) (M : wk_T) : Option (Int32 × wk_T) := (f_L_law_289 xs Lx k226 v8 v9 0 M)
def f_L_law_297 (xs : Nat → Int32) (Lx : Nat) (v7 : Int32) (M : wk_T) : Option (Int32 × wk_T) := (if v7 = 0 then (some (0, M)) else wk_cl (f_X3_count 12 M) (fun r2 M3 => (if r2 = (-1) then wk_cl (f_X3_count 19 M3) (fun r5 M6 => (if r5 = (-1) then wk_cl (f_X3_count 22 M6) (fun r8 M9 => (if r8 = (-1) then wk_cl (f_X3_roomOf (M9 14 0 0 0) 0 M9) (fun r11 M12 => (if r11 = (-1) then wk_cl (f_X3_pluggedAt 2 0 M12) (fun r14 M15 => (if r14 = (-1) then wk_cl (f_X3_energy (-1) 0 M15) (fun r17 M18 => (if r17 = (-1) then (some (1, M18)) else (some (0, M18)))) else (some (0, M15)))) else (some (0, M12)))) else (some (0, M9)))) else (some (0, M6)))) else (some (0, M3)))))
def f_L_law_226 (xs : Nat → Int32) (Lx : Nat) : Nat → Int32 → Int32 → Int32 → wk_T → Option (Int32 × wk_T)
  | 0, _, _, _, _ => none
  | n + 1, v7, v8, v9, M => (if v8 ≤ v9 then (f_L_law_297 xs Lx v7 M) else (if v7 = 0 then (f_L_law_297 xs Lx v7 M) else wk_gd (¬ (13 + v9) < 0) (wk_lt (f_cell xs Lx (13 + v9)) (fun r4 => wk_cl (f_L_acts (r4 ^^^ (7919 * v9)) M) (fun r5 M6 => (if r5 = 0 then (f_L_law_288 xs Lx (f_L_law_226 xs Lx n) v8 v9 M6) else wk_cl (f_L_isSoA M6) (fun r8 M9 => (if r8 = 0 then (f_L_law_288 xs Lx (f_L_law_226 xs Lx n) v8 v9 M9) else (f_L_law_289 xs Lx (f_L_law_226 xs Lx n) v8 v9 1 M9)))))))))
def f_L_law_208 (xs : Nat → Int32) (Lx : Nat) (v7 : Int32) (M : wk_T) : Option (Int32 × wk_T) := wk_gd (¬ (0 : Int32) < 0) (wk_lt (f_cell xs Lx (0 : Int32)) (fun r2 => wk_cl (f_L_low r2 42 M) (fun r3 M4 => wk_lt ((8 + r3)) (fun x5 => (f_L_law_226 xs Lx wk_fuel v7 x5 0 M4)))))
def f_L_law_60 (xs : Nat → Int32) (Lx : Nat) : Nat → Int32 → Int32 → wk_T → Option (Int32 × wk_T)
  | 0, _, _, _ => none
  | n + 1, v7, v8, M => (if 12 ≤ v8 then (f_L_law_208 xs Lx v7 M) else (if v7 = 0 then (f_L_law_208 xs Lx v7 M) else wk_gd (¬ (1 + v8) < 0) (wk_lt (f_cell xs Lx (1 + v8)) (fun r4 => wk_lt (((r4 &&& 2147483647) / 7)) (fun x5 => (if 4 ≤ v8 then (if 8 ≤ v8 then (if 10 ≤ v8 then wk_cl (f_L_acts (((x5 / 896) * 896) + 10) M) (fun r9 M10 => (f_L_law_200 xs Lx (f_L_law_60 xs Lx n) v8 r9 M10)) else wk_cl (f_L_lays x5 5 M) (fun r11 M12 => (f_L_law_200 xs Lx (f_L_law_60 xs Lx n) v8 r11 M12))) else wk_cl (f_L_lays ((((wk_rem (x5 / 8) 1000000) * 68) + ((v8 - 4) * 17)) + 4) 2 M) (fun r13 M14 => (f_L_law_200 xs Lx (f_L_law_60 xs Lx n) v8 r13 M14))) else wk_cl (f_L_lays x5 0 M) (fun r15 M16 => (f_L_law_200 xs Lx (f_L_law_60 xs Lx n) v8 r15 M16))))))))
def f_L_law (xs : Nat → Int32) (Lx : Nat) (M : wk_T) : Option (Int32 × wk_T) := wk_mu (wk_up M 14 0 0 3 2) (fun M1 => wk_mu (wk_up M1 14 0 0 4 2) (fun M2 => wk_cl (f_L_isSoA M2) (fun r3 M4 => (f_L_law_60 xs Lx wk_fuel r3 0 M4))))
set_option maxRecDepth 20000 in
theorem q_L_law {s : State} {args : Array Value} (hts : ∀ w ∈ wsL_law, w.before args s = true) : (Cond.constant RL 8 (2147483647)).before args s = true ∧ (Cond.constant RL 123 (1000000)).before args s = true := ⟨hts _ (List.mem_of_getElem? (i := 4) rfl), hts _ (List.mem_of_getElem? (i := 5) rfl)⟩
set_option maxRecDepth 100000 in
set_option maxHeartbeats 4000000 in
theorem w_L_law_200 {bb Lx : Nat} {xs : Nat → Int32} {r0 : Int32} (CX : wk_XL p l e s m bb below meth c Q Lx xs D y B Lk) (RT : wk_RL p l e s m bb below meth c Q D y B Lk r0 MM) {k60 : Int32 → Int32 → wk_T → Option (Int32 × wk_T)} (hk60 : ∀ (v7 : Int32) (v8 : Int32) (M : wk_T) (H : Heap) (locs : List Loc) (ls : Array Slot) (cells slots : Nat), cells + (wk_fuel) ≤ room_1.cells → slots + 4 * (wk_fuel) ≤ room_1.slots → k60 v7 v8 M = some (r0, MM) → lv_has ls 10 [(0, .ref bb), (1, .ref (B 9 0 0)), (2, .ref (B 14 0 0)), (3, .ref (B 15 0 0)), (4, .ref (B 16 0 0)), (5, .ref (B 17 0 0)), (6, .ref (B 18 0 0)), (7, .int v7), (8, .int v8)] → wk_H D y B Lk M H → va_S (fun q => s.heap.size ≤ q) s.heap H locs → W p l e room_1 s m #[Value.ref bb] below meth c H locs cells slots Q (F0 m 60 ls [])) {v8 : Int32} {s0 : Int32} {M : wk_T} {H : Heap} {locs : List Loc} {ls : Array Slot} {cells slots : Nat} (hb1 : cells + (wk_fuel) ≤ room_1.cells) (hb2 : slots + 4 * (wk_fuel) ≤ room_1.slots) (h : f_L_law_200 xs Lx k60 v8 s0 M = some (r0, MM)) (hl : lv_has ls 10 [(0, .ref bb), (1, .ref (B 9 0 0)), (2, .ref (B 14 0 0)), (3, .ref (B 15 0 0)), (4, .ref (B 16 0 0)), (5, .ref (B 17 0 0)), (6, .ref (B 18 0 0)), (8, .int v8)]) (hP : wk_H D y B Lk M H) (hS : va_S (fun q => s.heap.size ≤ q) s.heap H locs) : W p l e room_1 s m #[Value.ref bb] below meth c H locs cells slots Q (F0 m 200 ls [.int s0]) := by
  obtain ⟨⟨hx, hb, hml, hown, hts⟩, hK, hI, hL, h19n, hA, hfr, hlo, hX, hbl, hbA⟩ := id CX
  obtain ⟨q4, q5⟩ := q_L_law hts
  unfold f_L_law_200 at h
  refine lv_istore (lv' := [(7, .int s0), (0, .ref bb), (1, .ref (B 9 0 0)), (2, .ref (B 14 0 0)), (3, .ref (B 15 0 0)), (4, .ref (B 16 0 0)), (5, .ref (B 17 0 0)), (6, .ref (B 18 0 0)), (8, .int v8)]) hx hb dL_law_200 hl (by decide) rfl (fun ls hl => ?_)
  obtain ⟨x1, ex1, h⟩ := wk_lt_e h
  refine lv_iinc (v := x1) (lv' := [(8, .int x1), (7, .int s0), (0, .ref bb), (1, .ref (B 9 0 0)), (2, .ref (B 14 0 0)), (3, .ref (B 15 0 0)), (4, .ref (B 16 0 0)), (5, .ref (B 17 0 0)), (6, .ref (B 18 0 0))]) hx hb dL_law_202 hl (k := 8) rfl (by rw [← ex1]; rfl) (by decide) rfl (fun ls hl => ?_)
  refine lv_goto (tgt := 60) hx hb dL_law_205 (by decide) ?_
  exact hk60 _ _ _ _ _ _ _ _ (by omega) (by omega) h (lv_sub hl [2, 3, 4, 5, 6, 7, 8, 1, 0] rfl) hP hS
set_option maxRecDepth 100000 in
set_option maxHeartbeats 4000000 in
theorem w_L_law_289 {bb Lx : Nat} {xs : Nat → Int32} {r0 : Int32} {nb : Nat} (CX : wk_XL p l e s m bb below meth c Q Lx xs D y B Lk) (RT : wk_RL p l e s m bb below meth c Q D y B Lk r0 MM) {k226 : Int32 → Int32 → Int32 → wk_T → Option (Int32 × wk_T)} (hk226 : ∀ (v7 : Int32) (v8 : Int32) (v9 : Int32) (M : wk_T) (H : Heap) (locs : List Loc) (ls : Array Slot) (cells slots : Nat), cells + (nb) ≤ room_1.cells → slots + 4 * (nb) ≤ room_1.slots → k226 v7 v8 v9 M = some (r0, MM) → lv_has ls 10 [(0, .ref bb), (1, .ref (B 9 0 0)), (2, .ref (B 14 0 0)), (3, .ref (B 15 0 0)), (4, .ref (B 16 0 0)), (5, .ref (B 17 0 0)), (6, .ref (B 18 0 0)), (7, .int v7), (8, .int v8), (9, .int v9)] → wk_H D y B Lk M H → va_S (fun q => s.heap.size ≤ q) s.heap H locs → W p l e room_1 s m #[Value.ref bb] below meth c H locs cells slots Q (F0 m 226 ls [])) {v8 : Int32} {v9 : Int32} {s0 : Int32} {M : wk_T} {H : Heap} {locs : List Loc} {ls : Array Slot} {cells slots : Nat} (hb1 : cells + (nb) ≤ room_1.cells) (hb2 : slots + 4 * (nb) ≤ room_1.slots) (h : f_L_law_289 xs Lx k226 v8 v9 s0 M = some (r0, MM)) (hl : lv_has ls 10 [(0, .ref bb), (1, .ref (B 9 0 0)), (2, .ref (B 14 0 0)), (3, .ref (B 15 0 0)), (4, .ref (B 16 0 0)), (5, .ref (B 17 0 0)), (6, .ref (B 18 0 0)), (8, .int v8), (9, .int v9)]) (hP : wk_H D y B Lk M H) (hS : va_S (fun q => s.heap.size ≤ q) s.heap H locs) : W p l e room_1 s m #[Value.ref bb] below meth c H locs cells slots Q (F0 m 289 ls [.int s0]) := by
  obtain ⟨⟨hx, hb, hml, hown, hts⟩, hK, hI, hL, h19n, hA, hfr, hlo, hX, hbl, hbA⟩ := id CX
  obtain ⟨q4, q5⟩ := q_L_law hts
  unfold f_L_law_289 at h
  refine lv_istore (lv' := [(7, .int s0), (0, .ref bb), (1, .ref (B 9 0 0)), (2, .ref (B 14 0 0)), (3, .ref (B 15 0 0)), (4, .ref (B 16 0 0)), (5, .ref (B 17 0 0)), (6, .ref (B 18 0 0)), (8, .int v8), (9, .int v9)]) hx hb dL_law_289 hl (by decide) rfl (fun ls hl => ?_)
  obtain ⟨x1, ex1, h⟩ := wk_lt_e h
  refine lv_iinc (v := x1) (lv' := [(9, .int x1), (7, .int s0), (0, .ref bb), (1, .ref (B 9 0 0)), (2, .ref (B 14 0 0)), (3, .ref (B 15 0 0)), (4, .ref (B 16 0 0)), (5, .ref (B 17 0 0)), (6, .ref (B 18 0 0)), (8, .int v8)]) hx hb dL_law_291 hl (k := 9) rfl (by rw [← ex1]; rfl) (by decide) rfl (fun ls hl => ?_)
  refine lv_goto (tgt := 226) hx hb dL_law_294 (by decide) ?_
  exact hk226 _ _ _ _ _ _ _ _ _ (by omega) (by omega) h (lv_sub hl [2, 3, 4, 5, 6, 7, 8, 1, 9, 0] rfl) hP hS
set_option maxRecDepth 100000 in
set_option maxHeartbeats 4000000 in
theorem w_L_law_288 {bb Lx : Nat} {xs : Nat → Int32} {r0 : Int32} {nb : Nat} (CX : wk_XL p l e s m bb below meth c Q Lx xs D y B Lk) (RT : wk_RL p l e s m bb below meth c Q D y B Lk r0 MM) {k226 : Int32 → Int32 → Int32 → wk_T → Option (Int32 × wk_T)} (hk226 : ∀ (v7 : Int32) (v8 : Int32) (v9 : Int32) (M : wk_T) (H : Heap) (locs : List Loc) (ls : Array Slot) (cells slots : Nat), cells + (nb) ≤ room_1.cells → slots + 4 * (nb) ≤ room_1.slots → k226 v7 v8 v9 M = some (r0, MM) → lv_has ls 10 [(0, .ref bb), (1, .ref (B 9 0 0)), (2, .ref (B 14 0 0)), (3, .ref (B 15 0 0)), (4, .ref (B 16 0 0)), (5, .ref (B 17 0 0)), (6, .ref (B 18 0 0)), (7, .int v7), (8, .int v8), (9, .int v9)] → wk_H D y B Lk M H → va_S (fun q => s.heap.size ≤ q) s.heap H locs → W p l e room_1 s m #[Value.ref bb] below meth c H locs cells slots Q (F0 m 226 ls [])) {v8 : Int32} {v9 : Int32} {M : wk_T} {H : Heap} {locs : List Loc} {ls : Array Slot} {cells slots : Nat} (hb1 : cells + (nb) ≤ room_1.cells) (hb2 : slots + 4 * (nb) ≤ room_1.slots) (h : f_L_law_288 xs Lx k226 v8 v9 M = some (r0, MM)) (hl : lv_has ls 10 [(0, .ref bb), (1, .ref (B 9 0 0)), (2, .ref (B 14 0 0)), (3, .ref (B 15 0 0)), (4, .ref (B 16 0 0)), (5, .ref (B 17 0 0)), (6, .ref (B 18 0 0)), (8, .int v8), (9, .int v9)]) (hP : wk_H D y B Lk M H) (hS : va_S (fun q => s.heap.size ≤ q) s.heap H locs) : W p l e room_1 s m #[Value.ref bb] below meth c H locs cells slots Q (F0 m 288 ls []) := by
  obtain ⟨⟨hx, hb, hml, hown, hts⟩, hK, hI, hL, h19n, hA, hfr, hlo, hX, hbl, hbA⟩ := id CX
  obtain ⟨q4, q5⟩ := q_L_law hts
  unfold f_L_law_288 at h
  refine lv_iconst (v := 0) hx hb dL_law_288 (by decide) ?_
  exact w_L_law_289 CX RT hk226 (by omega) (by omega) h (lv_sub hl [0, 1, 2, 3, 4, 5, 6, 7, 8] rfl) hP hS
set_option maxRecDepth 100000 in
set_option maxHeartbeats 4000000 in
theorem w_L_law_297 {bb Lx : Nat} {xs : Nat → Int32} {r0 : Int32} (CX : wk_XL p l e s m bb below meth c Q Lx xs D y B Lk) (RT : wk_RL p l e s m bb below meth c Q D y B Lk r0 MM) {v7 : Int32} {M : wk_T} {H : Heap} {locs : List Loc} {ls : Array Slot} {cells slots : Nat} (hb1 : cells + (0) ≤ room_1.cells) (hb2 : slots + 4 * (0) ≤ room_1.slots) (h : f_L_law_297 xs Lx v7 M = some (r0, MM)) (hl : lv_has ls 10 [(1, .ref (B 9 0 0)), (2, .ref (B 14 0 0)), (7, .int v7)]) (hP : wk_H D y B Lk M H) (hS : va_S (fun q => s.heap.size ≤ q) s.heap H locs) : W p l e room_1 s m #[Value.ref bb] below meth c H locs cells slots Q (F0 m 297 ls []) := by
  obtain ⟨⟨hx, hb, hml, hown, hts⟩, hK, hI, hL, h19n, hA, hfr, hlo, hX, hbl, hbA⟩ := id CX
  obtain ⟨q4, q5⟩ := q_L_law hts
  unfold f_L_law_297 at h
  refine lv_iload hx hb dL_law_297 (lv_at hl 2 rfl) ?_
  refine lv_if_eq (tgt := 368) hx hb dL_law_299 (by decide) (fun g1 => ?_) (fun g1 => ?_)
  · have h := wk_p g1 h
    refine lv_iconst (v := 0) hx hb dL_law_368 (by decide) ?_
    exact RT _ _ _ _ _ _ _ _ (by omega) (by omega) h hP hS dL_law_369
  · have h := wk_n g1 h
    refine lv_aload_n hx hb dL_law_302 rfl (lv_at hl 0 rfl) ?_
    refine lv_bipush (v := 12) hx hb dL_law_303 (by decide) ?_
    obtain ⟨r2, M3, er2, h⟩ := wk_cl_e h
    refine wk_cVi (As := [.int 12]) (rest := []) ⟨hx, hb, hml, hown, hts⟩ (m_X3_count l hI hL er2) (cwV 1 hts gL_law_X3_count rfl rfl rfl (by decide +kernel) ⟨Nat.le_trans (by decide) hfr, Nat.le_trans (by decide) hlo⟩) hK hP hS hA (wk_l9 hL 9 (by decide) (by decide)) wk_c9 rfl rfl hl.1 (lv_room (Nat.le_of_ble_eq_true rfl)) ⟨(by show _ ≤ room_1.cells; omega), (by show _ ≤ room_1.slots; omega)⟩ dL_law_305 (fun H locs hP hS => ?_)
    refine lv_iconst (v := (-1)) hx hb dL_law_308 (by decide) ?_
    refine lv_icmp_ne (tgt := 368) hx hb dL_law_309 (by decide) (fun g4 => ?_) (fun g4 => ?_)
    · have h := wk_n g4 h
      refine lv_iconst (v := 0) hx hb dL_law_368 (by decide) ?_
      exact RT _ _ _ _ _ _ _ _ (by omega) (by omega) h hP hS dL_law_369
    · have h := wk_p g4 h
      refine lv_aload_n hx hb dL_law_312 rfl (lv_at hl 0 rfl) ?_
      refine lv_bipush (v := 19) hx hb dL_law_313 (by decide) ?_
      obtain ⟨r5, M6, er5, h⟩ := wk_cl_e h
      refine wk_cVi (As := [.int 19]) (rest := []) ⟨hx, hb, hml, hown, hts⟩ (m_X3_count l hI hL er5) (cwV 1 hts gL_law_X3_count rfl rfl rfl (by decide +kernel) ⟨Nat.le_trans (by decide) hfr, Nat.le_trans (by decide) hlo⟩) hK hP hS hA (wk_l9 hL 9 (by decide) (by decide)) wk_c9 rfl rfl hl.1 (lv_room (Nat.le_of_ble_eq_true rfl)) ⟨(by show _ ≤ room_1.cells; omega), (by show _ ≤ room_1.slots; omega)⟩ dL_law_315 (fun H locs hP hS => ?_)
      refine lv_iconst (v := (-1)) hx hb dL_law_318 (by decide) ?_
      refine lv_icmp_ne (tgt := 368) hx hb dL_law_319 (by decide) (fun g7 => ?_) (fun g7 => ?_)
      · have h := wk_n g7 h
        refine lv_iconst (v := 0) hx hb dL_law_368 (by decide) ?_
        exact RT _ _ _ _ _ _ _ _ (by omega) (by omega) h hP hS dL_law_369
      · have h := wk_p g7 h
        refine lv_aload_n hx hb dL_law_322 rfl (lv_at hl 0 rfl) ?_
        refine lv_bipush (v := 22) hx hb dL_law_323 (by decide) ?_
        obtain ⟨r8, M9, er8, h⟩ := wk_cl_e h
        refine wk_cVi (As := [.int 22]) (rest := []) ⟨hx, hb, hml, hown, hts⟩ (m_X3_count l hI hL er8) (cwV 1 hts gL_law_X3_count rfl rfl rfl (by decide +kernel) ⟨Nat.le_trans (by decide) hfr, Nat.le_trans (by decide) hlo⟩) hK hP hS hA (wk_l9 hL 9 (by decide) (by decide)) wk_c9 rfl rfl hl.1 (lv_room (Nat.le_of_ble_eq_true rfl)) ⟨(by show _ ≤ room_1.cells; omega), (by show _ ≤ room_1.slots; omega)⟩ dL_law_325 (fun H locs hP hS => ?_)
        refine lv_iconst (v := (-1)) hx hb dL_law_328 (by decide) ?_
        refine lv_icmp_ne (tgt := 368) hx hb dL_law_329 (by decide) (fun g10 => ?_) (fun g10 => ?_)
        · have h := wk_n g10 h
          refine lv_iconst (v := 0) hx hb dL_law_368 (by decide) ?_
          exact RT _ _ _ _ _ _ _ _ (by omega) (by omega) h hP hS dL_law_369
        · have h := wk_p g10 h
          refine lv_aload_n hx hb dL_law_332 rfl (lv_at hl 0 rfl) ?_
          refine lv_aload_n hx hb dL_law_333 rfl (lv_at hl 1 rfl) ?_
          refine lv_iconst (v := 0) hx hb dL_law_334 (by decide) ?_
          refine wk_iald (j := 0) hx hb hK hP (wk_lL hL 14 (by decide) (by decide)) wk_c14 (by decide) (by decide) dL_law_335 ?_
          refine lv_iconst (v := 0) hx hb dL_law_336 (by decide) ?_
          obtain ⟨r11, M12, er11, h⟩ := wk_cl_e h
          refine wk_cVi (As := [.int (M9 14 0 0 0), .int 0]) (rest := []) ⟨hx, hb, hml, hown, hts⟩ (m_X3_roomOf l hI hL er11) (cwV 2 hts gL_law_X3_roomOf rfl rfl rfl (by decide +kernel) ⟨Nat.le_trans (by decide) hfr, Nat.le_trans (by decide) hlo⟩) hK hP hS hA (wk_l9 hL 9 (by decide) (by decide)) wk_c9 rfl rfl hl.1 (lv_room (Nat.le_of_ble_eq_true rfl)) ⟨(by show _ ≤ room_1.cells; omega), (by show _ ≤ room_1.slots; omega)⟩ dL_law_337 (fun H locs hP hS => ?_)
          refine lv_iconst (v := (-1)) hx hb dL_law_340 (by decide) ?_
          refine lv_icmp_ne (tgt := 368) hx hb dL_law_341 (by decide) (fun g13 => ?_) (fun g13 => ?_)
          · have h := wk_n g13 h
            refine lv_iconst (v := 0) hx hb dL_law_368 (by decide) ?_
            exact RT _ _ _ _ _ _ _ _ (by omega) (by omega) h hP hS dL_law_369
          · have h := wk_p g13 h
            refine lv_aload_n hx hb dL_law_344 rfl (lv_at hl 0 rfl) ?_
            refine lv_iconst (v := 2) hx hb dL_law_345 (by decide) ?_
            refine lv_iconst (v := 0) hx hb dL_law_346 (by decide) ?_
            obtain ⟨r14, M15, er14, h⟩ := wk_cl_e h
            refine wk_cVi (As := [.int 2, .int 0]) (rest := []) ⟨hx, hb, hml, hown, hts⟩ (m_X3_pluggedAt l hI hL er14) (cwV 2 hts gL_law_X3_pluggedAt rfl rfl rfl (by decide +kernel) ⟨Nat.le_trans (by decide) hfr, Nat.le_trans (by decide) hlo⟩) hK hP hS hA (wk_l9 hL 9 (by decide) (by decide)) wk_c9 rfl rfl hl.1 (lv_room (Nat.le_of_ble_eq_true rfl)) ⟨(by show _ ≤ room_1.cells; omega), (by show _ ≤ room_1.slots; omega)⟩ dL_law_347 (fun H locs hP hS => ?_)
            refine lv_iconst (v := (-1)) hx hb dL_law_350 (by decide) ?_
            refine lv_icmp_ne (tgt := 368) hx hb dL_law_351 (by decide) (fun g16 => ?_) (fun g16 => ?_)
            · have h := wk_n g16 h
              refine lv_iconst (v := 0) hx hb dL_law_368 (by decide) ?_
              exact RT _ _ _ _ _ _ _ _ (by omega) (by omega) h hP hS dL_law_369
            · have h := wk_p g16 h
              refine lv_aload_n hx hb dL_law_354 rfl (lv_at hl 0 rfl) ?_
              refine lv_iconst (v := (-1)) hx hb dL_law_355 (by decide) ?_
              refine lv_iconst (v := 0) hx hb dL_law_356 (by decide) ?_
              obtain ⟨r17, M18, er17, h⟩ := wk_cl_e h
              refine wk_cVi (As := [.int (-1), .int 0]) (rest := []) ⟨hx, hb, hml, hown, hts⟩ (m_X3_energy l hI hL er17) (cwV 2 hts gL_law_X3_energy rfl rfl rfl (by decide +kernel) ⟨Nat.le_trans (by decide) hfr, Nat.le_trans (by decide) hlo⟩) hK hP hS hA (wk_l9 hL 9 (by decide) (by decide)) wk_c9 rfl rfl hl.1 (lv_room (Nat.le_of_ble_eq_true rfl)) ⟨(by show _ ≤ room_1.cells; omega), (by show _ ≤ room_1.slots; omega)⟩ dL_law_357 (fun H locs hP hS => ?_)
              refine lv_iconst (v := (-1)) hx hb dL_law_360 (by decide) ?_
              refine lv_icmp_ne (tgt := 368) hx hb dL_law_361 (by decide) (fun g19 => ?_) (fun g19 => ?_)
              · have h := wk_n g19 h
                refine lv_iconst (v := 0) hx hb dL_law_368 (by decide) ?_
                exact RT _ _ _ _ _ _ _ _ (by omega) (by omega) h hP hS dL_law_369
              · have h := wk_p g19 h
                refine lv_iconst (v := 1) hx hb dL_law_364 (by decide) ?_
                refine lv_goto (tgt := 369) hx hb dL_law_365 (by decide) ?_
                exact RT _ _ _ _ _ _ _ _ (by omega) (by omega) h hP hS dL_law_369
set_option maxRecDepth 100000 in
set_option maxHeartbeats 4000000 in
theorem w_L_law_226 {bb Lx : Nat} {xs : Nat → Int32} {r0 : Int32} (CX : wk_XL p l e s m bb below meth c Q Lx xs D y B Lk) (RT : wk_RL p l e s m bb below meth c Q D y B Lk r0 MM) : ∀ (n : Nat) (v7 : Int32) (v8 : Int32) (v9 : Int32) (M : wk_T) (H : Heap) (locs : List Loc) (ls : Array Slot) (cells slots : Nat), cells + (n) ≤ room_1.cells → slots + 4 * (n) ≤ room_1.slots → f_L_law_226 xs Lx n v7 v8 v9 M = some (r0, MM) → lv_has ls 10 [(0, .ref bb), (1, .ref (B 9 0 0)), (2, .ref (B 14 0 0)), (3, .ref (B 15 0 0)), (4, .ref (B 16 0 0)), (5, .ref (B 17 0 0)), (6, .ref (B 18 0 0)), (7, .int v7), (8, .int v8), (9, .int v9)] → wk_H D y B Lk M H → va_S (fun q => s.heap.size ≤ q) s.heap H locs → W p l e room_1 s m #[Value.ref bb] below meth c H locs cells slots Q (F0 m 226 ls []) := by
  obtain ⟨⟨hx, hb, hml, hown, hts⟩, hK, hI, hL, h19n, hA, hfr, hlo, hX, hbl, hbA⟩ := id CX
  obtain ⟨q4, q5⟩ := q_L_law hts
  intro n
  induction n with
  | zero =>
    intro v7 v8 v9 M H locs ls cells slots hb1 hb2 h
    exact absurd h (by rw [f_L_law_226]; exact fun z => nomatch z)
  | succ n ih =>
    intro v7 v8 v9 M H locs ls cells slots hb1 hb2 h hl hP hS
    rw [f_L_law_226] at h
    refine lv_iload hx hb dL_law_226 (lv_at hl 9 rfl) ?_
    refine lv_iload hx hb dL_law_228 (lv_at hl 8 rfl) ?_
    refine lv_icmp_ge (tgt := 297) hx hb dL_law_230 (by decide) (fun g1 => ?_) (fun g1 => ?_)
    · have h := wk_p g1 h
      exact w_L_law_297 CX RT (by omega) (by omega) h (lv_sub hl [1, 2, 7] rfl) hP hS
    · have h := wk_n g1 h
      refine lv_iload hx hb dL_law_233 (lv_at hl 7 rfl) ?_
      refine lv_if_eq (tgt := 297) hx hb dL_law_235 (by decide) (fun g2 => ?_) (fun g2 => ?_)
      · have h := wk_p g2 h
        exact w_L_law_297 CX RT (by omega) (by omega) h (lv_sub hl [1, 2, 7] rfl) hP hS
      · have h := wk_n g2 h
        refine lv_aload_n hx hb dL_law_238 rfl (lv_at hl 1 rfl) ?_
        refine lv_aload_n hx hb dL_law_239 rfl (lv_at hl 2 rfl) ?_
        refine lv_aload_n hx hb dL_law_240 rfl (lv_at hl 3 rfl) ?_
        refine lv_aload hx hb dL_law_241 (lv_at hl 4 rfl) ?_
        refine lv_aload hx hb dL_law_243 (lv_at hl 5 rfl) ?_
        refine lv_aload hx hb dL_law_245 (lv_at hl 6 rfl) ?_
        refine lv_aload_n hx hb dL_law_247 rfl (lv_at hl 0 rfl) ?_
        refine lv_bipush (v := 13) hx hb dL_law_248 (by decide) ?_
        refine lv_iload hx hb dL_law_250 (lv_at hl 9 rfl) ?_
        refine lv_iadd hx hb dL_law_252 ?_
        obtain ⟨g3, h⟩ := wk_gd_e h
        obtain ⟨r4, er4, h⟩ := wk_lt_e h
        refine wk_cCell (rest := [.ref (B 18 0 0), .ref (B 17 0 0), .ref (B 16 0 0), .ref (B 15 0 0), .ref (B 14 0 0), .ref (B 9 0 0)]) ⟨hx, hb, hml, hown, hts⟩ (va_cwS 2 hts gL_law_L_cell rfl rfl rfl (by decide +kernel) ⟨Nat.le_trans (by decide) hfr, Nat.le_trans (by decide) hlo⟩) hX hbl hbA hP hS g3 er4 hl.1 (lv_room (Nat.le_of_ble_eq_true rfl)) ⟨(by show _ ≤ room_1.cells; omega), (by show _ ≤ room_1.slots; omega)⟩ dL_law_253 (fun H locs hP hS => ?_)
        refine lv_sipush (v := 7919) hx hb dL_law_256 (by decide) ?_
        refine lv_iload hx hb dL_law_259 (lv_at hl 9 rfl) ?_
        refine lv_imul hx hb dL_law_261 ?_
        refine lv_ixor hx hb dL_law_262 ?_
        obtain ⟨r5, M6, er5, h⟩ := wk_cl_e h
        refine wk_cSi (As := [.ref (B 9 0 0), .ref (B 14 0 0), .ref (B 15 0 0), .ref (B 16 0 0), .ref (B 17 0 0), .ref (B 18 0 0), .int (r4 ^^^ (7919 * v9))]) (rest := []) ⟨hx, hb, hml, hown, hts⟩ (m_L_acts l hI hL er5) (va_cwS 7 hts gL_law_L_acts rfl rfl rfl (by decide +kernel) ⟨Nat.le_trans (by decide) hfr, Nat.le_trans (by decide) hlo⟩) hK hP hS hA rfl hl.1 (lv_room (Nat.le_of_ble_eq_true rfl)) ⟨(by show _ ≤ room_1.cells; omega), (by show _ ≤ room_1.slots; omega)⟩ dL_law_263 (fun H locs hP hS => ?_)
        refine lv_if_eq (tgt := 288) hx hb dL_law_266 (by decide) (fun g7 => ?_) (fun g7 => ?_)
        · have h := wk_p g7 h
          exact w_L_law_288 CX RT ih (nb := n) (by omega) (by omega) h (lv_sub hl [0, 1, 2, 3, 4, 5, 6, 8, 9] rfl) hP hS
        · have h := wk_n g7 h
          refine lv_aload_n hx hb dL_law_269 rfl (lv_at hl 1 rfl) ?_
          refine lv_aload_n hx hb dL_law_270 rfl (lv_at hl 2 rfl) ?_
          refine lv_aload_n hx hb dL_law_271 rfl (lv_at hl 3 rfl) ?_
          refine lv_aload hx hb dL_law_272 (lv_at hl 4 rfl) ?_
          refine lv_aload hx hb dL_law_274 (lv_at hl 5 rfl) ?_
          refine lv_aload hx hb dL_law_276 (lv_at hl 6 rfl) ?_
          obtain ⟨r8, M9, er8, h⟩ := wk_cl_e h
          refine wk_cIsSo (rest := []) ⟨hx, hb, hml, hown, hts⟩ (m_L_isSo l hI hL h19n er8) (va_cwS 6 hts gL_law_L_isSo rfl rfl rfl (by decide +kernel) ⟨Nat.le_trans (by decide) hfr, Nat.le_trans (by decide) hlo⟩) hK hP hS hA hl.1 (lv_room (Nat.le_of_ble_eq_true rfl)) ⟨(by show _ ≤ room_1.cells; omega), (by show _ ≤ room_1.slots; omega)⟩ dL_law_278 (fun H locs hP hS => ?_)
          refine lv_if_eq (tgt := 288) hx hb dL_law_281 (by decide) (fun g10 => ?_) (fun g10 => ?_)
          · have h := wk_p g10 h
            exact w_L_law_288 CX RT ih (nb := n) (by omega) (by omega) h (lv_sub hl [0, 1, 2, 3, 4, 5, 6, 8, 9] rfl) hP hS
          · have h := wk_n g10 h
            refine lv_iconst (v := 1) hx hb dL_law_284 (by decide) ?_
            refine lv_goto (tgt := 289) hx hb dL_law_285 (by decide) ?_
            exact w_L_law_289 CX RT ih (nb := n) (by omega) (by omega) h (lv_sub hl [0, 1, 2, 3, 4, 5, 6, 8, 9] rfl) hP hS
set_option maxRecDepth 100000 in
set_option maxHeartbeats 4000000 in
theorem w_L_law_208 {bb Lx : Nat} {xs : Nat → Int32} {r0 : Int32} (CX : wk_XL p l e s m bb below meth c Q Lx xs D y B Lk) (RT : wk_RL p l e s m bb below meth c Q D y B Lk r0 MM) {v7 : Int32} {M : wk_T} {H : Heap} {locs : List Loc} {ls : Array Slot} {cells slots : Nat} (hb1 : cells + (wk_fuel) ≤ room_1.cells) (hb2 : slots + 4 * (wk_fuel) ≤ room_1.slots) (h : f_L_law_208 xs Lx v7 M = some (r0, MM)) (hl : lv_has ls 10 [(0, .ref bb), (1, .ref (B 9 0 0)), (2, .ref (B 14 0 0)), (3, .ref (B 15 0 0)), (4, .ref (B 16 0 0)), (5, .ref (B 17 0 0)), (6, .ref (B 18 0 0)), (7, .int v7)]) (hP : wk_H D y B Lk M H) (hS : va_S (fun q => s.heap.size ≤ q) s.heap H locs) : W p l e room_1 s m #[Value.ref bb] below meth c H locs cells slots Q (F0 m 208 ls []) := by
  obtain ⟨⟨hx, hb, hml, hown, hts⟩, hK, hI, hL, h19n, hA, hfr, hlo, hX, hbl, hbA⟩ := id CX
  obtain ⟨q4, q5⟩ := q_L_law hts
  unfold f_L_law_208 at h
  refine lv_bipush (v := 8) hx hb dL_law_208 (by decide) ?_
  refine lv_aload_n hx hb dL_law_210 rfl (lv_at hl 0 rfl) ?_
  refine lv_iconst (v := 0) hx hb dL_law_211 (by decide) ?_
  obtain ⟨g1, h⟩ := wk_gd_e h
  obtain ⟨r2, er2, h⟩ := wk_lt_e h
  refine wk_cCell (rest := [.int 8]) ⟨hx, hb, hml, hown, hts⟩ (va_cwS 2 hts gL_law_L_cell rfl rfl rfl (by decide +kernel) ⟨Nat.le_trans (by decide) hfr, Nat.le_trans (by decide) hlo⟩) hX hbl hbA hP hS g1 er2 hl.1 (lv_room (Nat.le_of_ble_eq_true rfl)) ⟨(by show _ ≤ room_1.cells; omega), (by show _ ≤ room_1.slots; omega)⟩ dL_law_212 (fun H locs hP hS => ?_)
  refine lv_bipush (v := 42) hx hb dL_law_215 (by decide) ?_
  obtain ⟨r3, M4, er3, h⟩ := wk_cl_e h
  refine wk_cSi (As := [.int r2, .int 42]) (rest := [.int 8]) ⟨hx, hb, hml, hown, hts⟩ (m_L_low l hI hL er3) (va_cwS 2 hts gL_law_L_low rfl rfl rfl (by decide +kernel) ⟨Nat.le_trans (by decide) hfr, Nat.le_trans (by decide) hlo⟩) hK hP hS hA rfl hl.1 (lv_room (Nat.le_of_ble_eq_true rfl)) ⟨(by show _ ≤ room_1.cells; omega), (by show _ ≤ room_1.slots; omega)⟩ dL_law_217 (fun H locs hP hS => ?_)
  refine lv_iadd hx hb dL_law_220 ?_
  obtain ⟨x5, ex5, h⟩ := wk_lt_e h
  refine wk_topi ex5 ?_
  refine lv_istore (lv' := [(8, .int x5), (0, .ref bb), (1, .ref (B 9 0 0)), (2, .ref (B 14 0 0)), (3, .ref (B 15 0 0)), (4, .ref (B 16 0 0)), (5, .ref (B 17 0 0)), (6, .ref (B 18 0 0)), (7, .int v7)]) hx hb dL_law_221 hl (by decide) rfl (fun ls hl => ?_)
  refine lv_iconst (v := 0) hx hb dL_law_223 (by decide) ?_
  refine lv_istore (lv' := [(9, .int 0), (8, .int x5), (0, .ref bb), (1, .ref (B 9 0 0)), (2, .ref (B 14 0 0)), (3, .ref (B 15 0 0)), (4, .ref (B 16 0 0)), (5, .ref (B 17 0 0)), (6, .ref (B 18 0 0)), (7, .int v7)]) hx hb dL_law_224 hl (by decide) rfl (fun ls hl => ?_)
  exact w_L_law_226 CX RT wk_fuel _ _ _ _ _ _ _ _ _ (by omega) (by omega) h (lv_sub hl [2, 3, 4, 5, 6, 7, 8, 9, 1, 0] rfl) hP hS
set_option maxRecDepth 100000 in
set_option maxHeartbeats 4000000 in
theorem w_L_law_60 {bb Lx : Nat} {xs : Nat → Int32} {r0 : Int32} (CX : wk_XL p l e s m bb below meth c Q Lx xs D y B Lk) (RT : wk_RL p l e s m bb below meth c Q D y B Lk r0 MM) : ∀ (n : Nat) (v7 : Int32) (v8 : Int32) (M : wk_T) (H : Heap) (locs : List Loc) (ls : Array Slot) (cells slots : Nat), cells + (wk_fuel) ≤ room_1.cells → slots + 4 * (wk_fuel) ≤ room_1.slots → f_L_law_60 xs Lx n v7 v8 M = some (r0, MM) → lv_has ls 10 [(0, .ref bb), (1, .ref (B 9 0 0)), (2, .ref (B 14 0 0)), (3, .ref (B 15 0 0)), (4, .ref (B 16 0 0)), (5, .ref (B 17 0 0)), (6, .ref (B 18 0 0)), (7, .int v7), (8, .int v8)] → wk_H D y B Lk M H → va_S (fun q => s.heap.size ≤ q) s.heap H locs → W p l e room_1 s m #[Value.ref bb] below meth c H locs cells slots Q (F0 m 60 ls []) := by
  obtain ⟨⟨hx, hb, hml, hown, hts⟩, hK, hI, hL, h19n, hA, hfr, hlo, hX, hbl, hbA⟩ := id CX
  obtain ⟨q4, q5⟩ := q_L_law hts
  intro n
  induction n with
  | zero =>
    intro v7 v8 M H locs ls cells slots hb1 hb2 h
    exact absurd h (by rw [f_L_law_60]; exact fun z => nomatch z)
  | succ n ih =>
    intro v7 v8 M H locs ls cells slots hb1 hb2 h hl hP hS
    rw [f_L_law_60] at h
    refine lv_iload hx hb dL_law_60 (lv_at hl 8 rfl) ?_
    refine lv_bipush (v := 12) hx hb dL_law_62 (by decide) ?_
    refine lv_icmp_ge (tgt := 208) hx hb dL_law_64 (by decide) (fun g1 => ?_) (fun g1 => ?_)
    · have h := wk_p g1 h
      exact w_L_law_208 CX RT (by omega) (by omega) h (lv_sub hl [0, 1, 2, 3, 4, 5, 6, 7] rfl) hP hS
    · have h := wk_n g1 h
      refine lv_iload hx hb dL_law_67 (lv_at hl 7 rfl) ?_
      refine lv_if_eq (tgt := 208) hx hb dL_law_69 (by decide) (fun g2 => ?_) (fun g2 => ?_)
      · have h := wk_p g2 h
        exact w_L_law_208 CX RT (by omega) (by omega) h (lv_sub hl [0, 1, 2, 3, 4, 5, 6, 7] rfl) hP hS
      · have h := wk_n g2 h
        refine lv_aload_n hx hb dL_law_72 rfl (lv_at hl 0 rfl) ?_
        refine lv_iconst (v := 1) hx hb dL_law_73 (by decide) ?_
        refine lv_iload hx hb dL_law_74 (lv_at hl 8 rfl) ?_
        refine lv_iadd hx hb dL_law_76 ?_
        obtain ⟨g3, h⟩ := wk_gd_e h
        obtain ⟨r4, er4, h⟩ := wk_lt_e h
        refine wk_cCell (rest := []) ⟨hx, hb, hml, hown, hts⟩ (va_cwS 2 hts gL_law_L_cell rfl rfl rfl (by decide +kernel) ⟨Nat.le_trans (by decide) hfr, Nat.le_trans (by decide) hlo⟩) hX hbl hbA hP hS g3 er4 hl.1 (lv_room (Nat.le_of_ble_eq_true rfl)) ⟨(by show _ ≤ room_1.cells; omega), (by show _ ≤ room_1.slots; omega)⟩ dL_law_77 (fun H locs hP hS => ?_)
        refine lv_ldc (v := 2147483647) hx hb hown q4 dL_law_80 ?_
        refine lv_iand hx hb dL_law_82 ?_
        refine lv_bipush (v := 7) hx hb dL_law_83 (by decide) ?_
        refine lv_idiv hx hb dL_law_85 (by decide) ?_
        obtain ⟨x5, ex5, h⟩ := wk_lt_e h
        refine wk_topi ex5 ?_
        refine lv_istore (lv' := [(9, .int x5), (0, .ref bb), (1, .ref (B 9 0 0)), (2, .ref (B 14 0 0)), (3, .ref (B 15 0 0)), (4, .ref (B 16 0 0)), (5, .ref (B 17 0 0)), (6, .ref (B 18 0 0)), (7, .int v7), (8, .int v8)]) hx hb dL_law_86 hl (by decide) rfl (fun ls hl => ?_)
        refine lv_iload hx hb dL_law_88 (lv_at hl 9 rfl) ?_
        refine lv_iconst (v := 4) hx hb dL_law_90 (by decide) ?_
        refine lv_icmp_ge (tgt := 110) hx hb dL_law_91 (by decide) (fun g6 => ?_) (fun g6 => ?_)
        · have h := wk_p g6 h
          refine lv_iload hx hb dL_law_110 (lv_at hl 9 rfl) ?_
          refine lv_bipush (v := 8) hx hb dL_law_112 (by decide) ?_
          refine lv_icmp_ge (tgt := 152) hx hb dL_law_114 (by decide) (fun g7 => ?_) (fun g7 => ?_)
          · have h := wk_p g7 h
            refine lv_iload hx hb dL_law_152 (lv_at hl 9 rfl) ?_
            refine lv_bipush (v := 10) hx hb dL_law_154 (by decide) ?_
            refine lv_icmp_ge (tgt := 175) hx hb dL_law_156 (by decide) (fun g8 => ?_) (fun g8 => ?_)
            · have h := wk_p g8 h
              refine lv_aload_n hx hb dL_law_175 rfl (lv_at hl 2 rfl) ?_
              refine lv_aload_n hx hb dL_law_176 rfl (lv_at hl 3 rfl) ?_
              refine lv_aload_n hx hb dL_law_177 rfl (lv_at hl 4 rfl) ?_
              refine lv_aload hx hb dL_law_178 (lv_at hl 5 rfl) ?_
              refine lv_aload hx hb dL_law_180 (lv_at hl 6 rfl) ?_
              refine lv_aload hx hb dL_law_182 (lv_at hl 7 rfl) ?_
              refine lv_iload hx hb dL_law_184 (lv_at hl 0 rfl) ?_
              refine lv_sipush (v := 896) hx hb dL_law_186 (by decide) ?_
              refine lv_idiv hx hb dL_law_189 (by decide) ?_
              refine lv_sipush (v := 896) hx hb dL_law_190 (by decide) ?_
              refine lv_imul hx hb dL_law_193 ?_
              refine lv_bipush (v := 10) hx hb dL_law_194 (by decide) ?_
              refine lv_iadd hx hb dL_law_196 ?_
              obtain ⟨r9, M10, er9, h⟩ := wk_cl_e h
              refine wk_cSi (As := [.ref (B 9 0 0), .ref (B 14 0 0), .ref (B 15 0 0), .ref (B 16 0 0), .ref (B 17 0 0), .ref (B 18 0 0), .int (((x5 / 896) * 896) + 10)]) (rest := []) ⟨hx, hb, hml, hown, hts⟩ (m_L_acts l hI hL er9) (va_cwS 7 hts gL_law_L_acts rfl rfl rfl (by decide +kernel) ⟨Nat.le_trans (by decide) hfr, Nat.le_trans (by decide) hlo⟩) hK hP hS hA rfl hl.1 (lv_room (Nat.le_of_ble_eq_true rfl)) ⟨(by show _ ≤ room_1.cells; omega), (by show _ ≤ room_1.slots; omega)⟩ dL_law_197 (fun H locs hP hS => ?_)
              exact w_L_law_200 CX RT ih (by omega) (by omega) h (lv_sub hl [1, 2, 3, 4, 5, 6, 7, 9] rfl) hP hS
            · have h := wk_n g8 h
              refine lv_aload_n hx hb dL_law_159 rfl (lv_at hl 2 rfl) ?_
              refine lv_aload_n hx hb dL_law_160 rfl (lv_at hl 3 rfl) ?_
              refine lv_aload_n hx hb dL_law_161 rfl (lv_at hl 4 rfl) ?_
              refine lv_aload hx hb dL_law_162 (lv_at hl 5 rfl) ?_
              refine lv_aload hx hb dL_law_164 (lv_at hl 6 rfl) ?_
              refine lv_iload hx hb dL_law_166 (lv_at hl 0 rfl) ?_
              refine lv_iconst (v := 5) hx hb dL_law_168 (by decide) ?_
              obtain ⟨r11, M12, er11, h⟩ := wk_cl_e h
              refine wk_cSi (As := [.ref (B 9 0 0), .ref (B 14 0 0), .ref (B 15 0 0), .ref (B 16 0 0), .ref (B 17 0 0), .int x5, .int 5]) (rest := []) ⟨hx, hb, hml, hown, hts⟩ (m_L_lays l hI hL er11) (va_cwS 7 hts gL_law_L_lays rfl rfl rfl (by decide +kernel) ⟨Nat.le_trans (by decide) hfr, Nat.le_trans (by decide) hlo⟩) hK hP hS hA rfl hl.1 (lv_room (Nat.le_of_ble_eq_true rfl)) ⟨(by show _ ≤ room_1.cells; omega), (by show _ ≤ room_1.slots; omega)⟩ dL_law_169 (fun H locs hP hS => ?_)
              refine lv_goto (tgt := 200) hx hb dL_law_172 (by decide) ?_
              exact w_L_law_200 CX RT ih (by omega) (by omega) h (lv_sub hl [1, 2, 3, 4, 5, 6, 7, 9] rfl) hP hS
          · have h := wk_n g7 h
            refine lv_aload_n hx hb dL_law_117 rfl (lv_at hl 2 rfl) ?_
            refine lv_aload_n hx hb dL_law_118 rfl (lv_at hl 3 rfl) ?_
            refine lv_aload_n hx hb dL_law_119 rfl (lv_at hl 4 rfl) ?_
            refine lv_aload hx hb dL_law_120 (lv_at hl 5 rfl) ?_
            refine lv_aload hx hb dL_law_122 (lv_at hl 6 rfl) ?_
            refine lv_iload hx hb dL_law_124 (lv_at hl 0 rfl) ?_
            refine lv_bipush (v := 8) hx hb dL_law_126 (by decide) ?_
            refine lv_idiv hx hb dL_law_128 (by decide) ?_
            refine lv_ldc (v := 1000000) hx hb hown q5 dL_law_129 ?_
            refine wk_irem hx hb (by decide) dL_law_131 ?_
            refine lv_bipush (v := 68) hx hb dL_law_132 (by decide) ?_
            refine lv_imul hx hb dL_law_134 ?_
            refine lv_iload hx hb dL_law_135 (lv_at hl 9 rfl) ?_
            refine lv_iconst (v := 4) hx hb dL_law_137 (by decide) ?_
            refine lv_isub hx hb dL_law_138 ?_
            refine lv_bipush (v := 17) hx hb dL_law_139 (by decide) ?_
            refine lv_imul hx hb dL_law_141 ?_
            refine lv_iadd hx hb dL_law_142 ?_
            refine lv_iconst (v := 4) hx hb dL_law_143 (by decide) ?_
            refine lv_iadd hx hb dL_law_144 ?_
            refine lv_iconst (v := 2) hx hb dL_law_145 (by decide) ?_
            obtain ⟨r13, M14, er13, h⟩ := wk_cl_e h
            refine wk_cSi (As := [.ref (B 9 0 0), .ref (B 14 0 0), .ref (B 15 0 0), .ref (B 16 0 0), .ref (B 17 0 0), .int ((((wk_rem (x5 / 8) 1000000) * 68) + ((v8 - 4) * 17)) + 4), .int 2]) (rest := []) ⟨hx, hb, hml, hown, hts⟩ (m_L_lays l hI hL er13) (va_cwS 7 hts gL_law_L_lays rfl rfl rfl (by decide +kernel) ⟨Nat.le_trans (by decide) hfr, Nat.le_trans (by decide) hlo⟩) hK hP hS hA rfl hl.1 (lv_room (Nat.le_of_ble_eq_true rfl)) ⟨(by show _ ≤ room_1.cells; omega), (by show _ ≤ room_1.slots; omega)⟩ dL_law_146 (fun H locs hP hS => ?_)
            refine lv_goto (tgt := 200) hx hb dL_law_149 (by decide) ?_
            exact w_L_law_200 CX RT ih (by omega) (by omega) h (lv_sub hl [1, 2, 3, 4, 5, 6, 7, 9] rfl) hP hS
        · have h := wk_n g6 h
          refine lv_aload_n hx hb dL_law_94 rfl (lv_at hl 2 rfl) ?_
          refine lv_aload_n hx hb dL_law_95 rfl (lv_at hl 3 rfl) ?_
          refine lv_aload_n hx hb dL_law_96 rfl (lv_at hl 4 rfl) ?_
          refine lv_aload hx hb dL_law_97 (lv_at hl 5 rfl) ?_
          refine lv_aload hx hb dL_law_99 (lv_at hl 6 rfl) ?_
          refine lv_iload hx hb dL_law_101 (lv_at hl 0 rfl) ?_
          refine lv_iconst (v := 0) hx hb dL_law_103 (by decide) ?_
          obtain ⟨r15, M16, er15, h⟩ := wk_cl_e h
          refine wk_cSi (As := [.ref (B 9 0 0), .ref (B 14 0 0), .ref (B 15 0 0), .ref (B 16 0 0), .ref (B 17 0 0), .int x5, .int 0]) (rest := []) ⟨hx, hb, hml, hown, hts⟩ (m_L_lays l hI hL er15) (va_cwS 7 hts gL_law_L_lays rfl rfl rfl (by decide +kernel) ⟨Nat.le_trans (by decide) hfr, Nat.le_trans (by decide) hlo⟩) hK hP hS hA rfl hl.1 (lv_room (Nat.le_of_ble_eq_true rfl)) ⟨(by show _ ≤ room_1.cells; omega), (by show _ ≤ room_1.slots; omega)⟩ dL_law_104 (fun H locs hP hS => ?_)
          refine lv_goto (tgt := 200) hx hb dL_law_107 (by decide) ?_
          exact w_L_law_200 CX RT ih (by omega) (by omega) h (lv_sub hl [1, 2, 3, 4, 5, 6, 7, 9] rfl) hP hS
set_option maxRecDepth 100000 in
set_option maxHeartbeats 4000000 in
theorem w_L_law_35 {bb Lx : Nat} {xs : Nat → Int32} {r0 : Int32} (CX : wk_XL p l e s m bb below meth c Q Lx xs D y B Lk) (RT : wk_RL p l e s m bb below meth c Q D y B Lk r0 MM) {M : wk_T} {H : Heap} {locs : List Loc} {ls : Array Slot} {cells slots : Nat} (hb1 : cells + (wk_fuel + 1) ≤ room_1.cells) (hb2 : slots + 4 * (wk_fuel + 1) ≤ room_1.slots) (h : f_L_law xs Lx M = some (r0, MM)) (hl : lv_has ls 10 [(0, .ref bb), (1, .ref (B 9 0 0)), (2, .ref (B 14 0 0)), (3, .ref (B 15 0 0)), (4, .ref (B 16 0 0)), (5, .ref (B 17 0 0)), (6, .ref (B 18 0 0))]) (hP : wk_H D y B Lk M H) (hS : va_S (fun q => s.heap.size ≤ q) s.heap H locs) : W p l e room_1 s m #[Value.ref bb] below meth c H locs cells slots Q (F0 m 35 ls []) := by
  obtain ⟨⟨hx, hb, hml, hown, hts⟩, hK, hI, hL, h19n, hA, hfr, hlo, hX, hbl, hbA⟩ := id CX
  obtain ⟨q4, q5⟩ := q_L_law hts
  unfold f_L_law at h
  refine lv_aload_n hx hb dL_law_35 rfl (lv_at hl 2 rfl) ?_
  refine lv_iconst (v := 3) hx hb dL_law_36 (by decide) ?_
  refine lv_iconst (v := 2) hx hb dL_law_37 (by decide) ?_
  obtain ⟨M1, eM1, h⟩ := wk_mu_e h
  refine wk_iast (j := 3) hx hb hK hP hI hS hA (wk_lL hL 14 (by decide) (by decide)) wk_c14 (by decide) (by decide) (by rfl) dL_law_38 (fun H locs hP hS => ?_)
  rw [eM1] at hP
  refine lv_aload_n hx hb dL_law_39 rfl (lv_at hl 2 rfl) ?_
  refine lv_iconst (v := 4) hx hb dL_law_40 (by decide) ?_
  refine lv_iconst (v := 2) hx hb dL_law_41 (by decide) ?_
  obtain ⟨M2, eM2, h⟩ := wk_mu_e h
  refine wk_iast (j := 4) hx hb hK hP hI hS hA (wk_lL hL 14 (by decide) (by decide)) wk_c14 (by decide) (by decide) (by rfl) dL_law_42 (fun H locs hP hS => ?_)
  rw [eM2] at hP
  refine lv_aload_n hx hb dL_law_43 rfl (lv_at hl 1 rfl) ?_
  refine lv_aload_n hx hb dL_law_44 rfl (lv_at hl 2 rfl) ?_
  refine lv_aload_n hx hb dL_law_45 rfl (lv_at hl 3 rfl) ?_
  refine lv_aload hx hb dL_law_46 (lv_at hl 4 rfl) ?_
  refine lv_aload hx hb dL_law_48 (lv_at hl 5 rfl) ?_
  refine lv_aload hx hb dL_law_50 (lv_at hl 6 rfl) ?_
  obtain ⟨r3, M4, er3, h⟩ := wk_cl_e h
  refine wk_cIsSo (rest := []) ⟨hx, hb, hml, hown, hts⟩ (m_L_isSo l hI hL h19n er3) (va_cwS 6 hts gL_law_L_isSo rfl rfl rfl (by decide +kernel) ⟨Nat.le_trans (by decide) hfr, Nat.le_trans (by decide) hlo⟩) hK hP hS hA hl.1 (lv_room (Nat.le_of_ble_eq_true rfl)) ⟨(by show _ ≤ room_1.cells; omega), (by show _ ≤ room_1.slots; omega)⟩ dL_law_52 (fun H locs hP hS => ?_)
  refine lv_istore (lv' := [(7, .int r3), (0, .ref bb), (1, .ref (B 9 0 0)), (2, .ref (B 14 0 0)), (3, .ref (B 15 0 0)), (4, .ref (B 16 0 0)), (5, .ref (B 17 0 0)), (6, .ref (B 18 0 0))]) hx hb dL_law_55 hl (by decide) rfl (fun ls hl => ?_)
  refine lv_iconst (v := 0) hx hb dL_law_57 (by decide) ?_
  refine lv_istore (lv' := [(8, .int 0), (7, .int r3), (0, .ref bb), (1, .ref (B 9 0 0)), (2, .ref (B 14 0 0)), (3, .ref (B 15 0 0)), (4, .ref (B 16 0 0)), (5, .ref (B 17 0 0)), (6, .ref (B 18 0 0))]) hx hb dL_law_58 hl (by decide) rfl (fun ls hl => ?_)
  exact w_L_law_60 CX RT wk_fuel _ _ _ _ _ _ _ _ (by omega) (by omega) h (lv_sub hl [2, 3, 4, 5, 6, 7, 8, 1, 0] rfl) hP hS
end WP24
