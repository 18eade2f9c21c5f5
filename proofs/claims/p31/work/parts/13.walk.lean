/-! walks by program: X0_setNeed, X0_pluggedInto, X0_plugIn, X0_plugOut, X0_roomOnRail, X0_setLimit, X0_setPolicy, X0_planUse, X0_removeUse, X0_dropUse -/
section WP13
variable {p : Program} {l : Launch} {e : Env} {R : Room} {s : State} {m : MethodId} {args : Array Value} {below : List Frame} {meth : Method} {c : Code} {cells slots : Nat} {Q : State → Prop}
variable {D : va_G} {y : Nat → ClassId} {B : Nat → Nat → Nat → Nat} {Lk : Nat → Nat → Nat → Prop} {A : Nat → Prop} {MM : wk_T}
def f_X0_setNeed (ch : Nat) (v1 : Int32) (v2 : Int32) (M : wk_T) : Option (Int32 × wk_T) := wk_cl (f_X0_hasRoom ch v1 M) (fun r1 M2 => (if r1 = 0 then (some ((-1), M2)) else wk_cl (f_X3_outside v2 (-1) (v1 - 1) M2) (fun r4 M5 => (if r4 = 0 then wk_gd (¬ (v1 < 0 ∨ 8 ≤ v1.toNatClampNeg)) ((if (M5 6 ch v1.toNatClampNeg 7) = 0 then wk_lt ((M5 6 ch v1.toNatClampNeg 3)) (fun x9 => wk_mu (wk_up M5 6 ch v1.toNatClampNeg 3 v2) (fun M10 => (some ((x9 + 1), M10)))) else (some ((-2), M5)))) else (some ((-1), M5))))))
set_option maxRecDepth 20000 in
theorem q_X0_setNeed {s : State} {args : Array Value} (hts : ∀ w ∈ wsX0_setNeed, w.before args s = true) : (Cond.fieldLink RX0 11 "WokenRooms$Chip" "rooms" "[LWokenRooms$Room;").before args s = true ∧ (Cond.fieldLink RX0 65 "WokenRooms$Room" "state" "I").before args s = true ∧ (Cond.fieldLink RX0 86 "WokenRooms$Room" "needed" "I").before args s = true ∧ (Cond.static yX3_outside).before args s = true ∧ (Cond.initialized RX3).before args s = true := ⟨hts _ (List.mem_of_getElem? (i := 1) rfl), hts _ (List.mem_of_getElem? (i := 2) rfl), hts _ (List.mem_of_getElem? (i := 3) rfl), hts _ (List.mem_of_getElem? (i := 10) rfl), hts _ (List.mem_of_getElem? (i := 11) rfl)⟩
set_option maxRecDepth 100000 in
set_option maxHeartbeats 4000000 in
theorem w_X0_setNeed_0 {ch : Nat} {r0 : Int32} (CX : wk_X p l e R s m args below meth c cells slots Q cX0_setNeed 5 RX0 wsX0_setNeed D y B Lk A 1 22) (RT : wk_Ri p l e R s m args below meth c cells slots Q cX0_setNeed D y B Lk A r0 MM) (hc : ch < 7) {v1 : Int32} {v2 : Int32} {M : wk_T} {H : Heap} {locs : List Loc} {ls : Array Slot} (h : f_X0_setNeed ch v1 v2 M = some (r0, MM)) (hl : lv_has ls 5 [(0, .ref (B 0 ch 0)), (1, .int v1), (2, .int v2)]) (hP : wk_H D y B Lk M H) (hS : va_S A s.heap H locs) : W p l e R s m args below meth c H locs cells slots Q (F0 m 0 ls []) := by
  obtain ⟨⟨hx, hb, hml, hown, hts⟩, hK, hI, hL, hA, hfr, hlo, hcs⟩ := id CX
  obtain ⟨q1, q2, q3, q10, q11⟩ := q_X0_setNeed hts
  unfold f_X0_setNeed at h
  refine lv_aload_n hx hb dX0_setNeed_0 rfl (lv_at hl 0 rfl) ?_
  refine lv_iload_n hx hb dX0_setNeed_1 rfl (lv_at hl 1 rfl) ?_
  obtain ⟨r1, M2, er1, h⟩ := wk_cl_e h
  refine wk_cVi (As := [.int v1]) (rest := []) ⟨hx, hb, hml, hown, hts⟩ (m_X0_hasRoom l hI hL hc er1) (cwV 1 hts gX0_setNeed_X0_hasRoom rfl rfl rfl (by decide +kernel) ⟨Nat.le_trans (by decide) hfr, Nat.le_trans (by decide) hlo⟩) hK hP hS hA (wk_l0 hL hc 0 (by decide)) wk_c0 rfl rfl hl.1 (lv_room (Nat.le_of_ble_eq_true rfl)) hcs dX0_setNeed_2 (fun H locs hP hS => ?_)
  refine lv_if_eq (tgt := 19) hx hb dX0_setNeed_5 (by decide) (fun g3 => ?_) (fun g3 => ?_)
  · have h := wk_p g3 h
    refine lv_iconst (v := (-1)) hx hb dX0_setNeed_19 (by decide) ?_
    exact RT _ _ _ _ _ _ h hP hS dX0_setNeed_20
  · have h := wk_n g3 h
    refine lv_iload_n hx hb dX0_setNeed_8 rfl (lv_at hl 2 rfl) ?_
    refine lv_iconst (v := (-1)) hx hb dX0_setNeed_9 (by decide) ?_
    refine lv_iload_n hx hb dX0_setNeed_10 rfl (lv_at hl 1 rfl) ?_
    refine lv_iconst (v := 1) hx hb dX0_setNeed_11 (by decide) ?_
    refine lv_isub hx hb dX0_setNeed_12 ?_
    obtain ⟨r4, M5, er4, h⟩ := wk_cl_e h
    refine wk_cNi (As := [.int v2, .int (-1), .int (v1 - 1)]) (rest := []) ⟨hx, hb, hml, hown, hts⟩ (m_X3_outside l hI hL er4) (va_cnB 3 hts gX0_setNeed_X3_outside_n82 rfl rfl rfl hK.2 q11 (by decide +kernel) ⟨Nat.le_trans (by decide) hfr, Nat.le_trans (by decide) hlo⟩) q10 hK hP hS hA rfl hl.1 (lv_room (Nat.le_of_ble_eq_true rfl)) hcs dX0_setNeed_13 (fun H locs hP hS => ?_)
    refine lv_if_eq (tgt := 21) hx hb dX0_setNeed_16 (by decide) (fun g6 => ?_) (fun g6 => ?_)
    · have h := wk_p g6 h
      refine lv_aload_n hx hb dX0_setNeed_21 rfl (lv_at hl 0 rfl) ?_
      refine wk_get (ref := "WokenRooms$Chip") (C := RX0) (T := TX0) (N := 8) (ci := 0) (v := .ref (B 1 ch 0)) hx hb hts (fun _ h => List.mem_cons_of_mem _ (List.mem_append_left _ (List.mem_append_right _ h))) hown hK hP (wk_l0 hL hc 0 (by decide)) wk_c0 rfl 0 (by decide) q1 rfl rfl dX0_setNeed_22 ?_
      refine lv_iload_n hx hb dX0_setNeed_25 rfl (lv_at hl 1 rfl) ?_
      obtain ⟨g7, h⟩ := wk_gd_e h
      refine wk_aaldR (j := v1.toNatClampNeg) hx hb hK hP (wk_l0 hL hc 1 (by decide)) g7 rfl dX0_setNeed_26 ?_
      refine lv_astore_n (lv' := [(3, .ref (B 6 ch v1.toNatClampNeg)), (0, .ref (B 0 ch 0)), (1, .int v1), (2, .int v2)]) hx hb dX0_setNeed_27 rfl hl (by decide) rfl (fun ls hl => ?_)
      refine lv_aload_n hx hb dX0_setNeed_28 rfl (lv_at hl 0 rfl) ?_
      refine wk_get (ref := "WokenRooms$Room") (C := RX2) (T := TX2) (N := 15) (ci := 2) (v := .int (M5 6 ch v1.toNatClampNeg 7)) hx hb hts (fun _ h => List.mem_cons_of_mem _ (List.mem_append_right _ h)) hown hK hP (wk_l6 hL hc (wk_ix g7) 6 (by decide) (by decide)) wk_c6 rfl 7 (by decide) q2 rfl rfl dX0_setNeed_29 ?_
      refine lv_if_eq (tgt := 38) hx hb dX0_setNeed_32 (by decide) (fun g8 => ?_) (fun g8 => ?_)
      · have h := wk_p g8 h
        refine lv_aload_n hx hb dX0_setNeed_38 rfl (lv_at hl 0 rfl) ?_
        refine wk_get (ref := "WokenRooms$Room") (C := RX2) (T := TX2) (N := 15) (ci := 2) (v := .int (M5 6 ch v1.toNatClampNeg 3)) hx hb hts (fun _ h => List.mem_cons_of_mem _ (List.mem_append_right _ h)) hown hK hP (wk_l6 hL hc (wk_ix g7) 6 (by decide) (by decide)) wk_c6 rfl 3 (by decide) q3 rfl rfl dX0_setNeed_39 ?_
        obtain ⟨x9, ex9, h⟩ := wk_lt_e h
        refine wk_topi ex9 ?_
        refine lv_istore (lv' := [(4, .int x9), (3, .ref (B 6 ch v1.toNatClampNeg)), (0, .ref (B 0 ch 0)), (1, .int v1), (2, .int v2)]) hx hb dX0_setNeed_42 hl (by decide) rfl (fun ls hl => ?_)
        refine lv_aload_n hx hb dX0_setNeed_44 rfl (lv_at hl 1 rfl) ?_
        refine lv_iload_n hx hb dX0_setNeed_45 rfl (lv_at hl 4 rfl) ?_
        obtain ⟨M10, eM10, h⟩ := wk_mu_e h
        refine wk_put (ref := "WokenRooms$Room") (C := RX2) (T := TX2) (N := 15) (ci := 2) hx hb hts (fun _ h => List.mem_cons_of_mem _ (List.mem_append_right _ h)) tyX2 tyX2_ok nmX2 hown hK hP hI hS hA (wk_l6 hL hc (wk_ix g7) 6 (by decide) (by decide)) wk_c6 rfl 3 (by decide) q3 rfl rfl (by decide +kernel) (Nat.le_of_ble_eq_true rfl) (by rfl) dX0_setNeed_46 (fun H locs hP hS => ?_)
        rw [eM10] at hP
        refine lv_iload hx hb dX0_setNeed_49 (lv_at hl 0 rfl) ?_
        refine lv_iconst (v := 1) hx hb dX0_setNeed_51 (by decide) ?_
        refine lv_iadd hx hb dX0_setNeed_52 ?_
        exact RT _ _ _ _ _ _ h hP hS dX0_setNeed_53
      · have h := wk_n g8 h
        refine lv_bipush (v := (-2)) hx hb dX0_setNeed_35 (by decide) ?_
        exact RT _ _ _ _ _ _ h hP hS dX0_setNeed_37
    · have h := wk_n g6 h
      refine lv_iconst (v := (-1)) hx hb dX0_setNeed_19 (by decide) ?_
      exact RT _ _ _ _ _ _ h hP hS dX0_setNeed_20
set_option maxRecDepth 100000 in
set_option maxHeartbeats 4000000 in
theorem m_X0_setNeed (l : Launch) {D : va_G} {y : Nat → ClassId} {B : Nat → Nat → Nat → Nat} {Lk : Nat → Nat → Nat → Prop} (hI : wk_I B Lk) (hL : wk_L Lk) {ch : Nat} (hc : ch < 7) {v1 : Int32} {v2 : Int32} {M : wk_T} {r0 : Int32} {MM : wk_T} (hf : f_X0_setNeed ch v1 v2 M = some (r0, MM)) : wk_Mi l yX0_setNeed wsX0_setNeed 1 22 D y B Lk [.ref (B 0 ch 0), .int v1, .int v2] M r0 MM :=
  wk_ofI (own := RX0) (bytes := cX0_setNeed) (maxL := 5) (ret := some .int) (by decide +kernel) rfl rfl (Or.inl rfl) (Nat.le_of_ble_eq_true rfl) hI hL (fun p e s m args below meth c ls CX RTi RTz hl hP hS => w_X0_setNeed_0 CX (RTi rfl) hc hf hl hP hS)
def f_X0_pluggedInto_28 (ch : Nat) (k4 : Int32 → Int32 → Int32 → wk_T → Option (Int32 × wk_T)) (v1 : Int32) (v2 : Int32) (v3 : Int32) (M : wk_T) : Option (Int32 × wk_T) := wk_lt (v3 + 1) (fun x1 => (k4 v1 v2 x1 M))
def f_X0_pluggedInto_4 (ch : Nat) : Nat → Int32 → Int32 → Int32 → wk_T → Option (Int32 × wk_T)
  | 0, _, _, _, _ => none
  | n + 1, v1, v2, v3, M => (if (M 0 ch 0 1) ≤ v3 then (some (v2, M)) else wk_gd (¬ (v3 < 0 ∨ 8 ≤ v3.toNatClampNeg)) ((if (M 6 ch v3.toNatClampNeg 4) = v1 then wk_lt (v2 + 1) (fun x4 => (f_X0_pluggedInto_28 ch (f_X0_pluggedInto_4 ch n) v1 x4 v3 M)) else (f_X0_pluggedInto_28 ch (f_X0_pluggedInto_4 ch n) v1 v2 v3 M))))
def f_X0_pluggedInto (ch : Nat) (v1 : Int32) (M : wk_T) : Option (Int32 × wk_T) := (f_X0_pluggedInto_4 ch wk_fuel v1 0 0 M)
set_option maxRecDepth 20000 in
theorem q_X0_pluggedInto {s : State} {args : Array Value} (hts : ∀ w ∈ wsX0_pluggedInto, w.before args s = true) : (Cond.fieldLink RX0 31 "WokenRooms$Chip" "roomCount" "I").before args s = true ∧ (Cond.fieldLink RX0 11 "WokenRooms$Chip" "rooms" "[LWokenRooms$Room;").before args s = true ∧ (Cond.fieldLink RX0 89 "WokenRooms$Room" "rail" "I").before args s = true := ⟨hts _ (List.mem_of_getElem? (i := 1) rfl), hts _ (List.mem_of_getElem? (i := 2) rfl), hts _ (List.mem_of_getElem? (i := 3) rfl)⟩
set_option maxRecDepth 100000 in
set_option maxHeartbeats 4000000 in
theorem w_X0_pluggedInto_28 {ch : Nat} {r0 : Int32} (CX : wk_X p l e R s m args below meth c cells slots Q cX0_pluggedInto 4 RX0 wsX0_pluggedInto D y B Lk A 0 0) (RT : wk_Ri p l e R s m args below meth c cells slots Q cX0_pluggedInto D y B Lk A r0 MM) (hc : ch < 7) {k4 : Int32 → Int32 → Int32 → wk_T → Option (Int32 × wk_T)} (hk4 : ∀ (v1 : Int32) (v2 : Int32) (v3 : Int32) (M : wk_T) (H : Heap) (locs : List Loc) (ls : Array Slot), k4 v1 v2 v3 M = some (r0, MM) → lv_has ls 4 [(0, .ref (B 0 ch 0)), (1, .int v1), (2, .int v2), (3, .int v3)] → wk_H D y B Lk M H → va_S A s.heap H locs → W p l e R s m args below meth c H locs cells slots Q (F0 m 4 ls [])) {v1 : Int32} {v2 : Int32} {v3 : Int32} {M : wk_T} {H : Heap} {locs : List Loc} {ls : Array Slot} (h : f_X0_pluggedInto_28 ch k4 v1 v2 v3 M = some (r0, MM)) (hl : lv_has ls 4 [(0, .ref (B 0 ch 0)), (1, .int v1), (2, .int v2), (3, .int v3)]) (hP : wk_H D y B Lk M H) (hS : va_S A s.heap H locs) : W p l e R s m args below meth c H locs cells slots Q (F0 m 28 ls []) := by
  obtain ⟨⟨hx, hb, hml, hown, hts⟩, hK, hI, hL, hA, hfr, hlo, hcs⟩ := id CX
  obtain ⟨q1, q2, q3⟩ := q_X0_pluggedInto hts
  unfold f_X0_pluggedInto_28 at h
  obtain ⟨x1, ex1, h⟩ := wk_lt_e h
  refine lv_iinc (v := x1) (lv' := [(3, .int x1), (0, .ref (B 0 ch 0)), (1, .int v1), (2, .int v2)]) hx hb dX0_pluggedInto_28 hl (k := 3) rfl (by rw [← ex1]; rfl) (by decide) rfl (fun ls hl => ?_)
  refine lv_goto (tgt := 4) hx hb dX0_pluggedInto_31 (by decide) ?_
  exact hk4 _ _ _ _ _ _ _ h (lv_sub hl [1, 2, 3, 0] rfl) hP hS
set_option maxRecDepth 100000 in
set_option maxHeartbeats 4000000 in
theorem w_X0_pluggedInto_4 {ch : Nat} {r0 : Int32} (CX : wk_X p l e R s m args below meth c cells slots Q cX0_pluggedInto 4 RX0 wsX0_pluggedInto D y B Lk A 0 0) (RT : wk_Ri p l e R s m args below meth c cells slots Q cX0_pluggedInto D y B Lk A r0 MM) (hc : ch < 7) : ∀ (n : Nat) (v1 : Int32) (v2 : Int32) (v3 : Int32) (M : wk_T) (H : Heap) (locs : List Loc) (ls : Array Slot), f_X0_pluggedInto_4 ch n v1 v2 v3 M = some (r0, MM) → lv_has ls 4 [(0, .ref (B 0 ch 0)), (1, .int v1), (2, .int v2), (3, .int v3)] → wk_H D y B Lk M H → va_S A s.heap H locs → W p l e R s m args below meth c H locs cells slots Q (F0 m 4 ls []) := by
  obtain ⟨⟨hx, hb, hml, hown, hts⟩, hK, hI, hL, hA, hfr, hlo, hcs⟩ := id CX
  obtain ⟨q1, q2, q3⟩ := q_X0_pluggedInto hts
  intro n
  induction n with
  | zero =>
    intro v1 v2 v3 M H locs ls h
    exact absurd h (by rw [f_X0_pluggedInto_4]; exact fun z => nomatch z)
  | succ n ih =>
    intro v1 v2 v3 M H locs ls h hl hP hS
    rw [f_X0_pluggedInto_4] at h
    refine lv_iload_n hx hb dX0_pluggedInto_4 rfl (lv_at hl 3 rfl) ?_
    refine lv_aload_n hx hb dX0_pluggedInto_5 rfl (lv_at hl 0 rfl) ?_
    refine wk_get (ref := "WokenRooms$Chip") (C := RX0) (T := TX0) (N := 8) (ci := 0) (v := .int (M 0 ch 0 1)) hx hb hts (fun _ h => List.mem_cons_of_mem _ (List.mem_append_left _ (List.mem_append_right _ h))) hown hK hP (wk_l0 hL hc 0 (by decide)) wk_c0 rfl 1 (by decide) q1 rfl rfl dX0_pluggedInto_6 ?_
    refine lv_icmp_ge (tgt := 34) hx hb dX0_pluggedInto_9 (by decide) (fun g1 => ?_) (fun g1 => ?_)
    · have h := wk_p g1 h
      refine lv_iload_n hx hb dX0_pluggedInto_34 rfl (lv_at hl 2 rfl) ?_
      exact RT _ _ _ _ _ _ h hP hS dX0_pluggedInto_35
    · have h := wk_n g1 h
      refine lv_aload_n hx hb dX0_pluggedInto_12 rfl (lv_at hl 0 rfl) ?_
      refine wk_get (ref := "WokenRooms$Chip") (C := RX0) (T := TX0) (N := 8) (ci := 0) (v := .ref (B 1 ch 0)) hx hb hts (fun _ h => List.mem_cons_of_mem _ (List.mem_append_left _ (List.mem_append_right _ h))) hown hK hP (wk_l0 hL hc 0 (by decide)) wk_c0 rfl 0 (by decide) q2 rfl rfl dX0_pluggedInto_13 ?_
      refine lv_iload_n hx hb dX0_pluggedInto_16 rfl (lv_at hl 3 rfl) ?_
      obtain ⟨g2, h⟩ := wk_gd_e h
      refine wk_aaldR (j := v3.toNatClampNeg) hx hb hK hP (wk_l0 hL hc 1 (by decide)) g2 rfl dX0_pluggedInto_17 ?_
      refine wk_get (ref := "WokenRooms$Room") (C := RX2) (T := TX2) (N := 15) (ci := 2) (v := .int (M 6 ch v3.toNatClampNeg 4)) hx hb hts (fun _ h => List.mem_cons_of_mem _ (List.mem_append_right _ h)) hown hK hP (wk_l6 hL hc (wk_ix g2) 6 (by decide) (by decide)) wk_c6 rfl 4 (by decide) q3 rfl rfl dX0_pluggedInto_18 ?_
      refine lv_iload_n hx hb dX0_pluggedInto_21 rfl (lv_at hl 1 rfl) ?_
      refine lv_icmp_ne (tgt := 28) hx hb dX0_pluggedInto_22 (by decide) (fun g3 => ?_) (fun g3 => ?_)
      · have h := wk_n g3 h
        exact w_X0_pluggedInto_28 CX RT hc ih h (lv_sub hl [0, 1, 2, 3] rfl) hP hS
      · have h := wk_p g3 h
        obtain ⟨x4, ex4, h⟩ := wk_lt_e h
        refine lv_iinc (v := x4) (lv' := [(2, .int x4), (0, .ref (B 0 ch 0)), (1, .int v1), (3, .int v3)]) hx hb dX0_pluggedInto_25 hl (k := 2) rfl (by rw [← ex4]; rfl) (by decide) rfl (fun ls hl => ?_)
        exact w_X0_pluggedInto_28 CX RT hc ih h (lv_sub hl [1, 2, 0, 3] rfl) hP hS
set_option maxRecDepth 100000 in
set_option maxHeartbeats 4000000 in
theorem w_X0_pluggedInto_0 {ch : Nat} {r0 : Int32} (CX : wk_X p l e R s m args below meth c cells slots Q cX0_pluggedInto 4 RX0 wsX0_pluggedInto D y B Lk A 0 0) (RT : wk_Ri p l e R s m args below meth c cells slots Q cX0_pluggedInto D y B Lk A r0 MM) (hc : ch < 7) {v1 : Int32} {M : wk_T} {H : Heap} {locs : List Loc} {ls : Array Slot} (h : f_X0_pluggedInto ch v1 M = some (r0, MM)) (hl : lv_has ls 4 [(0, .ref (B 0 ch 0)), (1, .int v1)]) (hP : wk_H D y B Lk M H) (hS : va_S A s.heap H locs) : W p l e R s m args below meth c H locs cells slots Q (F0 m 0 ls []) := by
  obtain ⟨⟨hx, hb, hml, hown, hts⟩, hK, hI, hL, hA, hfr, hlo, hcs⟩ := id CX
  obtain ⟨q1, q2, q3⟩ := q_X0_pluggedInto hts
  unfold f_X0_pluggedInto at h
  refine lv_iconst (v := 0) hx hb dX0_pluggedInto_0 (by decide) ?_
  refine lv_istore_n (lv' := [(2, .int 0), (0, .ref (B 0 ch 0)), (1, .int v1)]) hx hb dX0_pluggedInto_1 rfl hl (by decide) rfl (fun ls hl => ?_)
  refine lv_iconst (v := 0) hx hb dX0_pluggedInto_2 (by decide) ?_
  refine lv_istore_n (lv' := [(3, .int 0), (2, .int 0), (0, .ref (B 0 ch 0)), (1, .int v1)]) hx hb dX0_pluggedInto_3 rfl hl (by decide) rfl (fun ls hl => ?_)
  exact w_X0_pluggedInto_4 CX RT hc wk_fuel _ _ _ _ _ _ _ h (lv_sub hl [2, 3, 1, 0] rfl) hP hS
set_option maxRecDepth 100000 in
set_option maxHeartbeats 4000000 in
theorem m_X0_pluggedInto (l : Launch) {D : va_G} {y : Nat → ClassId} {B : Nat → Nat → Nat → Nat} {Lk : Nat → Nat → Nat → Prop} (hI : wk_I B Lk) (hL : wk_L Lk) {ch : Nat} (hc : ch < 7) {v1 : Int32} {M : wk_T} {r0 : Int32} {MM : wk_T} (hf : f_X0_pluggedInto ch v1 M = some (r0, MM)) : wk_Mi l yX0_pluggedInto wsX0_pluggedInto 0 0 D y B Lk [.ref (B 0 ch 0), .int v1] M r0 MM :=
  wk_ofI (own := RX0) (bytes := cX0_pluggedInto) (maxL := 4) (ret := some .int) (by decide +kernel) rfl rfl (Or.inl rfl) (Nat.le_of_ble_eq_true rfl) hI hL (fun p e s m args below meth c ls CX RTi RTz hl hP hS => w_X0_pluggedInto_0 CX (RTi rfl) hc hf hl hP hS)
def f_X0_plugIn (ch : Nat) (v1 : Int32) (v2 : Int32) (M : wk_T) : Option (Int32 × wk_T) := wk_cl (f_X0_hasRoom ch v1 M) (fun r1 M2 => (if r1 = 0 then (some ((-1), M2)) else wk_cl (f_X3_outside v2 0 1 M2) (fun r4 M5 => (if r4 = 0 then wk_gd (¬ (v1 < 0 ∨ 8 ≤ v1.toNatClampNeg)) ((if (M5 6 ch v1.toNatClampNeg 4) = (-1) then (if (M5 6 ch v1.toNatClampNeg 2) = v2 then wk_cl (f_X0_pluggedInto ch v2 M5) (fun r10 M11 => (if r10 < 4 then wk_mu (wk_up M11 6 ch v1.toNatClampNeg 4 v2) (fun M13 => wk_cl (f_X0_pluggedInto ch v2 M13) (fun r14 M15 => (some (r14, M15)))) else (some ((-3), M11)))) else (some ((-2), M5))) else (some ((-2), M5)))) else (some ((-1), M5))))))
set_option maxRecDepth 20000 in
theorem q_X0_plugIn {s : State} {args : Array Value} (hts : ∀ w ∈ wsX0_plugIn, w.before args s = true) : (Cond.fieldLink RX0 11 "WokenRooms$Chip" "rooms" "[LWokenRooms$Room;").before args s = true ∧ (Cond.fieldLink RX0 89 "WokenRooms$Room" "rail" "I").before args s = true ∧ (Cond.fieldLink RX0 92 "WokenRooms$Room" "kind" "I").before args s = true ∧ (Cond.static yX3_outside).before args s = true ∧ (Cond.initialized RX3).before args s = true := ⟨hts _ (List.mem_of_getElem? (i := 1) rfl), hts _ (List.mem_of_getElem? (i := 2) rfl), hts _ (List.mem_of_getElem? (i := 3) rfl), hts _ (List.mem_of_getElem? (i := 10) rfl), hts _ (List.mem_of_getElem? (i := 11) rfl)⟩
set_option maxRecDepth 100000 in
set_option maxHeartbeats 4000000 in
theorem w_X0_plugIn_0 {ch : Nat} {r0 : Int32} (CX : wk_X p l e R s m args below meth c cells slots Q cX0_plugIn 4 RX0 wsX0_plugIn D y B Lk A 1 23) (RT : wk_Ri p l e R s m args below meth c cells slots Q cX0_plugIn D y B Lk A r0 MM) (hc : ch < 7) {v1 : Int32} {v2 : Int32} {M : wk_T} {H : Heap} {locs : List Loc} {ls : Array Slot} (h : f_X0_plugIn ch v1 v2 M = some (r0, MM)) (hl : lv_has ls 4 [(0, .ref (B 0 ch 0)), (1, .int v1), (2, .int v2)]) (hP : wk_H D y B Lk M H) (hS : va_S A s.heap H locs) : W p l e R s m args below meth c H locs cells slots Q (F0 m 0 ls []) := by
  obtain ⟨⟨hx, hb, hml, hown, hts⟩, hK, hI, hL, hA, hfr, hlo, hcs⟩ := id CX
  obtain ⟨q1, q2, q3, q10, q11⟩ := q_X0_plugIn hts
  unfold f_X0_plugIn at h
  refine lv_aload_n hx hb dX0_plugIn_0 rfl (lv_at hl 0 rfl) ?_
  refine lv_iload_n hx hb dX0_plugIn_1 rfl (lv_at hl 1 rfl) ?_
  obtain ⟨r1, M2, er1, h⟩ := wk_cl_e h
  refine wk_cVi (As := [.int v1]) (rest := []) ⟨hx, hb, hml, hown, hts⟩ (m_X0_hasRoom l hI hL hc er1) (cwV 1 hts gX0_plugIn_X0_hasRoom rfl rfl rfl (by decide +kernel) ⟨Nat.le_trans (by decide) hfr, Nat.le_trans (by decide) hlo⟩) hK hP hS hA (wk_l0 hL hc 0 (by decide)) wk_c0 rfl rfl hl.1 (lv_room (Nat.le_of_ble_eq_true rfl)) hcs dX0_plugIn_2 (fun H locs hP hS => ?_)
  refine lv_if_eq (tgt := 17) hx hb dX0_plugIn_5 (by decide) (fun g3 => ?_) (fun g3 => ?_)
  · have h := wk_p g3 h
    refine lv_iconst (v := (-1)) hx hb dX0_plugIn_17 (by decide) ?_
    exact RT _ _ _ _ _ _ h hP hS dX0_plugIn_18
  · have h := wk_n g3 h
    refine lv_iload_n hx hb dX0_plugIn_8 rfl (lv_at hl 2 rfl) ?_
    refine lv_iconst (v := 0) hx hb dX0_plugIn_9 (by decide) ?_
    refine lv_iconst (v := 1) hx hb dX0_plugIn_10 (by decide) ?_
    obtain ⟨r4, M5, er4, h⟩ := wk_cl_e h
    refine wk_cNi (As := [.int v2, .int 0, .int 1]) (rest := []) ⟨hx, hb, hml, hown, hts⟩ (m_X3_outside l hI hL er4) (va_cnB 3 hts gX0_plugIn_X3_outside_n82 rfl rfl rfl hK.2 q11 (by decide +kernel) ⟨Nat.le_trans (by decide) hfr, Nat.le_trans (by decide) hlo⟩) q10 hK hP hS hA rfl hl.1 (lv_room (Nat.le_of_ble_eq_true rfl)) hcs dX0_plugIn_11 (fun H locs hP hS => ?_)
    refine lv_if_eq (tgt := 19) hx hb dX0_plugIn_14 (by decide) (fun g6 => ?_) (fun g6 => ?_)
    · have h := wk_p g6 h
      refine lv_aload_n hx hb dX0_plugIn_19 rfl (lv_at hl 0 rfl) ?_
      refine wk_get (ref := "WokenRooms$Chip") (C := RX0) (T := TX0) (N := 8) (ci := 0) (v := .ref (B 1 ch 0)) hx hb hts (fun _ h => List.mem_cons_of_mem _ (List.mem_append_left _ (List.mem_append_right _ h))) hown hK hP (wk_l0 hL hc 0 (by decide)) wk_c0 rfl 0 (by decide) q1 rfl rfl dX0_plugIn_20 ?_
      refine lv_iload_n hx hb dX0_plugIn_23 rfl (lv_at hl 1 rfl) ?_
      obtain ⟨g7, h⟩ := wk_gd_e h
      refine wk_aaldR (j := v1.toNatClampNeg) hx hb hK hP (wk_l0 hL hc 1 (by decide)) g7 rfl dX0_plugIn_24 ?_
      refine lv_astore_n (lv' := [(3, .ref (B 6 ch v1.toNatClampNeg)), (0, .ref (B 0 ch 0)), (1, .int v1), (2, .int v2)]) hx hb dX0_plugIn_25 rfl hl (by decide) rfl (fun ls hl => ?_)
      refine lv_aload_n hx hb dX0_plugIn_26 rfl (lv_at hl 0 rfl) ?_
      refine wk_get (ref := "WokenRooms$Room") (C := RX2) (T := TX2) (N := 15) (ci := 2) (v := .int (M5 6 ch v1.toNatClampNeg 4)) hx hb hts (fun _ h => List.mem_cons_of_mem _ (List.mem_append_right _ h)) hown hK hP (wk_l6 hL hc (wk_ix g7) 6 (by decide) (by decide)) wk_c6 rfl 4 (by decide) q2 rfl rfl dX0_plugIn_27 ?_
      refine lv_iconst (v := (-1)) hx hb dX0_plugIn_30 (by decide) ?_
      refine lv_icmp_ne (tgt := 42) hx hb dX0_plugIn_31 (by decide) (fun g8 => ?_) (fun g8 => ?_)
      · have h := wk_n g8 h
        refine lv_bipush (v := (-2)) hx hb dX0_plugIn_42 (by decide) ?_
        exact RT _ _ _ _ _ _ h hP hS dX0_plugIn_44
      · have h := wk_p g8 h
        refine lv_aload_n hx hb dX0_plugIn_34 rfl (lv_at hl 0 rfl) ?_
        refine wk_get (ref := "WokenRooms$Room") (C := RX2) (T := TX2) (N := 15) (ci := 2) (v := .int (M5 6 ch v1.toNatClampNeg 2)) hx hb hts (fun _ h => List.mem_cons_of_mem _ (List.mem_append_right _ h)) hown hK hP (wk_l6 hL hc (wk_ix g7) 6 (by decide) (by decide)) wk_c6 rfl 2 (by decide) q3 rfl rfl dX0_plugIn_35 ?_
        refine lv_iload_n hx hb dX0_plugIn_38 rfl (lv_at hl 3 rfl) ?_
        refine lv_icmp_eq (tgt := 45) hx hb dX0_plugIn_39 (by decide) (fun g9 => ?_) (fun g9 => ?_)
        · have h := wk_p g9 h
          refine lv_aload_n hx hb dX0_plugIn_45 rfl (lv_at hl 1 rfl) ?_
          refine lv_iload_n hx hb dX0_plugIn_46 rfl (lv_at hl 3 rfl) ?_
          obtain ⟨r10, M11, er10, h⟩ := wk_cl_e h
          refine wk_cVi (As := [.int v2]) (rest := []) ⟨hx, hb, hml, hown, hts⟩ (m_X0_pluggedInto l hI hL hc er10) (cwV 1 hts gX0_plugIn_X0_pluggedInto rfl rfl rfl (by decide +kernel) ⟨Nat.le_trans (by decide) hfr, Nat.le_trans (by decide) hlo⟩) hK hP hS hA (wk_l0 hL hc 0 (by decide)) wk_c0 rfl rfl hl.1 (lv_room (Nat.le_of_ble_eq_true rfl)) hcs dX0_plugIn_47 (fun H locs hP hS => ?_)
          refine lv_iconst (v := 4) hx hb dX0_plugIn_50 (by decide) ?_
          refine lv_icmp_lt (tgt := 57) hx hb dX0_plugIn_51 (by decide) (fun g12 => ?_) (fun g12 => ?_)
          · have h := wk_p g12 h
            refine lv_aload_n hx hb dX0_plugIn_57 rfl (lv_at hl 0 rfl) ?_
            refine lv_iload_n hx hb dX0_plugIn_58 rfl (lv_at hl 3 rfl) ?_
            obtain ⟨M13, eM13, h⟩ := wk_mu_e h
            refine wk_put (ref := "WokenRooms$Room") (C := RX2) (T := TX2) (N := 15) (ci := 2) hx hb hts (fun _ h => List.mem_cons_of_mem _ (List.mem_append_right _ h)) tyX2 tyX2_ok nmX2 hown hK hP hI hS hA (wk_l6 hL hc (wk_ix g7) 6 (by decide) (by decide)) wk_c6 rfl 4 (by decide) q2 rfl rfl (by decide +kernel) (Nat.le_of_ble_eq_true rfl) (by rfl) dX0_plugIn_59 (fun H locs hP hS => ?_)
            rw [eM13] at hP
            refine lv_aload_n hx hb dX0_plugIn_62 rfl (lv_at hl 1 rfl) ?_
            refine lv_iload_n hx hb dX0_plugIn_63 rfl (lv_at hl 3 rfl) ?_
            obtain ⟨r14, M15, er14, h⟩ := wk_cl_e h
            refine wk_cVi (As := [.int v2]) (rest := []) ⟨hx, hb, hml, hown, hts⟩ (m_X0_pluggedInto l hI hL hc er14) (cwV 1 hts gX0_plugIn_X0_pluggedInto rfl rfl rfl (by decide +kernel) ⟨Nat.le_trans (by decide) hfr, Nat.le_trans (by decide) hlo⟩) hK hP hS hA (wk_l0 hL hc 0 (by decide)) wk_c0 rfl rfl hl.1 (lv_room (Nat.le_of_ble_eq_true rfl)) hcs dX0_plugIn_64 (fun H locs hP hS => ?_)
            exact RT _ _ _ _ _ _ h hP hS dX0_plugIn_67
          · have h := wk_n g12 h
            refine lv_bipush (v := (-3)) hx hb dX0_plugIn_54 (by decide) ?_
            exact RT _ _ _ _ _ _ h hP hS dX0_plugIn_56
        · have h := wk_n g9 h
          refine lv_bipush (v := (-2)) hx hb dX0_plugIn_42 (by decide) ?_
          exact RT _ _ _ _ _ _ h hP hS dX0_plugIn_44
    · have h := wk_n g6 h
      refine lv_iconst (v := (-1)) hx hb dX0_plugIn_17 (by decide) ?_
      exact RT _ _ _ _ _ _ h hP hS dX0_plugIn_18
set_option maxRecDepth 100000 in
set_option maxHeartbeats 4000000 in
theorem m_X0_plugIn (l : Launch) {D : va_G} {y : Nat → ClassId} {B : Nat → Nat → Nat → Nat} {Lk : Nat → Nat → Nat → Prop} (hI : wk_I B Lk) (hL : wk_L Lk) {ch : Nat} (hc : ch < 7) {v1 : Int32} {v2 : Int32} {M : wk_T} {r0 : Int32} {MM : wk_T} (hf : f_X0_plugIn ch v1 v2 M = some (r0, MM)) : wk_Mi l yX0_plugIn wsX0_plugIn 1 23 D y B Lk [.ref (B 0 ch 0), .int v1, .int v2] M r0 MM :=
  wk_ofI (own := RX0) (bytes := cX0_plugIn) (maxL := 4) (ret := some .int) (by decide +kernel) rfl rfl (Or.inl rfl) (Nat.le_of_ble_eq_true rfl) hI hL (fun p e s m args below meth c ls CX RTi RTz hl hP hS => w_X0_plugIn_0 CX (RTi rfl) hc hf hl hP hS)
def f_X0_plugOut (ch : Nat) (v1 : Int32) (M : wk_T) : Option (Int32 × wk_T) := wk_cl (f_X0_hasRoom ch v1 M) (fun r1 M2 => (if r1 = 0 then (some ((-1), M2)) else wk_gd (¬ (v1 < 0 ∨ 8 ≤ v1.toNatClampNeg)) ((if (M2 6 ch v1.toNatClampNeg 4) = (-1) then (some ((-2), M2)) else (if (M2 6 ch v1.toNatClampNeg 7) = 0 then wk_lt ((M2 6 ch v1.toNatClampNeg 4)) (fun x7 => wk_mu (wk_up M2 6 ch v1.toNatClampNeg 4 (-1)) (fun M8 => wk_cl (f_X0_pluggedInto ch x7 M8) (fun r9 M10 => (some (r9, M10))))) else (some ((-2), M2)))))))
set_option maxRecDepth 20000 in
theorem q_X0_plugOut {s : State} {args : Array Value} (hts : ∀ w ∈ wsX0_plugOut, w.before args s = true) : (Cond.fieldLink RX0 11 "WokenRooms$Chip" "rooms" "[LWokenRooms$Room;").before args s = true ∧ (Cond.fieldLink RX0 89 "WokenRooms$Room" "rail" "I").before args s = true ∧ (Cond.fieldLink RX0 65 "WokenRooms$Room" "state" "I").before args s = true := ⟨hts _ (List.mem_of_getElem? (i := 1) rfl), hts _ (List.mem_of_getElem? (i := 2) rfl), hts _ (List.mem_of_getElem? (i := 3) rfl)⟩
set_option maxRecDepth 100000 in
set_option maxHeartbeats 4000000 in
theorem w_X0_plugOut_0 {ch : Nat} {r0 : Int32} (CX : wk_X p l e R s m args below meth c cells slots Q cX0_plugOut 4 RX0 wsX0_plugOut D y B Lk A 1 23) (RT : wk_Ri p l e R s m args below meth c cells slots Q cX0_plugOut D y B Lk A r0 MM) (hc : ch < 7) {v1 : Int32} {M : wk_T} {H : Heap} {locs : List Loc} {ls : Array Slot} (h : f_X0_plugOut ch v1 M = some (r0, MM)) (hl : lv_has ls 4 [(0, .ref (B 0 ch 0)), (1, .int v1)]) (hP : wk_H D y B Lk M H) (hS : va_S A s.heap H locs) : W p l e R s m args below meth c H locs cells slots Q (F0 m 0 ls []) := by
  obtain ⟨⟨hx, hb, hml, hown, hts⟩, hK, hI, hL, hA, hfr, hlo, hcs⟩ := id CX
  obtain ⟨q1, q2, q3⟩ := q_X0_plugOut hts
  unfold f_X0_plugOut at h
  refine lv_aload_n hx hb dX0_plugOut_0 rfl (lv_at hl 0 rfl) ?_
  refine lv_iload_n hx hb dX0_plugOut_1 rfl (lv_at hl 1 rfl) ?_
  obtain ⟨r1, M2, er1, h⟩ := wk_cl_e h
  refine wk_cVi (As := [.int v1]) (rest := []) ⟨hx, hb, hml, hown, hts⟩ (m_X0_hasRoom l hI hL hc er1) (cwV 1 hts gX0_plugOut_X0_hasRoom rfl rfl rfl (by decide +kernel) ⟨Nat.le_trans (by decide) hfr, Nat.le_trans (by decide) hlo⟩) hK hP hS hA (wk_l0 hL hc 0 (by decide)) wk_c0 rfl rfl hl.1 (lv_room (Nat.le_of_ble_eq_true rfl)) hcs dX0_plugOut_2 (fun H locs hP hS => ?_)
  refine lv_if_ne (tgt := 10) hx hb dX0_plugOut_5 (by decide) (fun g3 => ?_) (fun g3 => ?_)
  · have h := wk_n g3 h
    refine lv_aload_n hx hb dX0_plugOut_10 rfl (lv_at hl 0 rfl) ?_
    refine wk_get (ref := "WokenRooms$Chip") (C := RX0) (T := TX0) (N := 8) (ci := 0) (v := .ref (B 1 ch 0)) hx hb hts (fun _ h => List.mem_cons_of_mem _ (List.mem_append_left _ (List.mem_append_right _ h))) hown hK hP (wk_l0 hL hc 0 (by decide)) wk_c0 rfl 0 (by decide) q1 rfl rfl dX0_plugOut_11 ?_
    refine lv_iload_n hx hb dX0_plugOut_14 rfl (lv_at hl 1 rfl) ?_
    obtain ⟨g4, h⟩ := wk_gd_e h
    refine wk_aaldR (j := v1.toNatClampNeg) hx hb hK hP (wk_l0 hL hc 1 (by decide)) g4 rfl dX0_plugOut_15 ?_
    refine lv_astore_n (lv' := [(2, .ref (B 6 ch v1.toNatClampNeg)), (0, .ref (B 0 ch 0)), (1, .int v1)]) hx hb dX0_plugOut_16 rfl hl (by decide) rfl (fun ls hl => ?_)
    refine lv_aload_n hx hb dX0_plugOut_17 rfl (lv_at hl 0 rfl) ?_
    refine wk_get (ref := "WokenRooms$Room") (C := RX2) (T := TX2) (N := 15) (ci := 2) (v := .int (M2 6 ch v1.toNatClampNeg 4)) hx hb hts (fun _ h => List.mem_cons_of_mem _ (List.mem_append_right _ h)) hown hK hP (wk_l6 hL hc (wk_ix g4) 6 (by decide) (by decide)) wk_c6 rfl 4 (by decide) q2 rfl rfl dX0_plugOut_18 ?_
    refine lv_iconst (v := (-1)) hx hb dX0_plugOut_21 (by decide) ?_
    refine lv_icmp_eq (tgt := 32) hx hb dX0_plugOut_22 (by decide) (fun g5 => ?_) (fun g5 => ?_)
    · have h := wk_p g5 h
      refine lv_bipush (v := (-2)) hx hb dX0_plugOut_32 (by decide) ?_
      exact RT _ _ _ _ _ _ h hP hS dX0_plugOut_34
    · have h := wk_n g5 h
      refine lv_aload_n hx hb dX0_plugOut_25 rfl (lv_at hl 0 rfl) ?_
      refine wk_get (ref := "WokenRooms$Room") (C := RX2) (T := TX2) (N := 15) (ci := 2) (v := .int (M2 6 ch v1.toNatClampNeg 7)) hx hb hts (fun _ h => List.mem_cons_of_mem _ (List.mem_append_right _ h)) hown hK hP (wk_l6 hL hc (wk_ix g4) 6 (by decide) (by decide)) wk_c6 rfl 7 (by decide) q3 rfl rfl dX0_plugOut_26 ?_
      refine lv_if_eq (tgt := 35) hx hb dX0_plugOut_29 (by decide) (fun g6 => ?_) (fun g6 => ?_)
      · have h := wk_p g6 h
        refine lv_aload_n hx hb dX0_plugOut_35 rfl (lv_at hl 0 rfl) ?_
        refine wk_get (ref := "WokenRooms$Room") (C := RX2) (T := TX2) (N := 15) (ci := 2) (v := .int (M2 6 ch v1.toNatClampNeg 4)) hx hb hts (fun _ h => List.mem_cons_of_mem _ (List.mem_append_right _ h)) hown hK hP (wk_l6 hL hc (wk_ix g4) 6 (by decide) (by decide)) wk_c6 rfl 4 (by decide) q2 rfl rfl dX0_plugOut_36 ?_
        obtain ⟨x7, ex7, h⟩ := wk_lt_e h
        refine wk_topi ex7 ?_
        refine lv_istore_n (lv' := [(3, .int x7), (2, .ref (B 6 ch v1.toNatClampNeg)), (0, .ref (B 0 ch 0)), (1, .int v1)]) hx hb dX0_plugOut_39 rfl hl (by decide) rfl (fun ls hl => ?_)
        refine lv_aload_n hx hb dX0_plugOut_40 rfl (lv_at hl 1 rfl) ?_
        refine lv_iconst (v := (-1)) hx hb dX0_plugOut_41 (by decide) ?_
        obtain ⟨M8, eM8, h⟩ := wk_mu_e h
        refine wk_put (ref := "WokenRooms$Room") (C := RX2) (T := TX2) (N := 15) (ci := 2) hx hb hts (fun _ h => List.mem_cons_of_mem _ (List.mem_append_right _ h)) tyX2 tyX2_ok nmX2 hown hK hP hI hS hA (wk_l6 hL hc (wk_ix g4) 6 (by decide) (by decide)) wk_c6 rfl 4 (by decide) q2 rfl rfl (by decide +kernel) (Nat.le_of_ble_eq_true rfl) (by rfl) dX0_plugOut_42 (fun H locs hP hS => ?_)
        rw [eM8] at hP
        refine lv_aload_n hx hb dX0_plugOut_45 rfl (lv_at hl 2 rfl) ?_
        refine lv_iload_n hx hb dX0_plugOut_46 rfl (lv_at hl 0 rfl) ?_
        obtain ⟨r9, M10, er9, h⟩ := wk_cl_e h
        refine wk_cVi (As := [.int x7]) (rest := []) ⟨hx, hb, hml, hown, hts⟩ (m_X0_pluggedInto l hI hL hc er9) (cwV 1 hts gX0_plugOut_X0_pluggedInto rfl rfl rfl (by decide +kernel) ⟨Nat.le_trans (by decide) hfr, Nat.le_trans (by decide) hlo⟩) hK hP hS hA (wk_l0 hL hc 0 (by decide)) wk_c0 rfl rfl hl.1 (lv_room (Nat.le_of_ble_eq_true rfl)) hcs dX0_plugOut_47 (fun H locs hP hS => ?_)
        exact RT _ _ _ _ _ _ h hP hS dX0_plugOut_50
      · have h := wk_n g6 h
        refine lv_bipush (v := (-2)) hx hb dX0_plugOut_32 (by decide) ?_
        exact RT _ _ _ _ _ _ h hP hS dX0_plugOut_34
  · have h := wk_p g3 h
    refine lv_iconst (v := (-1)) hx hb dX0_plugOut_8 (by decide) ?_
    exact RT _ _ _ _ _ _ h hP hS dX0_plugOut_9
set_option maxRecDepth 100000 in
set_option maxHeartbeats 4000000 in
theorem m_X0_plugOut (l : Launch) {D : va_G} {y : Nat → ClassId} {B : Nat → Nat → Nat → Nat} {Lk : Nat → Nat → Nat → Prop} (hI : wk_I B Lk) (hL : wk_L Lk) {ch : Nat} (hc : ch < 7) {v1 : Int32} {M : wk_T} {r0 : Int32} {MM : wk_T} (hf : f_X0_plugOut ch v1 M = some (r0, MM)) : wk_Mi l yX0_plugOut wsX0_plugOut 1 23 D y B Lk [.ref (B 0 ch 0), .int v1] M r0 MM :=
  wk_ofI (own := RX0) (bytes := cX0_plugOut) (maxL := 4) (ret := some .int) (by decide +kernel) rfl rfl (Or.inl rfl) (Nat.le_of_ble_eq_true rfl) hI hL (fun p e s m args below meth c ls CX RTi RTz hl hP hS => w_X0_plugOut_0 CX (RTi rfl) hc hf hl hP hS)
def f_X0_roomOnRail_39 (ch : Nat) (k5 : Int32 → Int32 → Int32 → Int32 → wk_T → Option (Int32 × wk_T)) (v1 : Int32) (v2 : Int32) (v3 : Int32) (v4 : Int32) (M : wk_T) : Option (Int32 × wk_T) := wk_lt (v4 + 1) (fun x1 => (k5 v1 v2 v3 x1 M))
def f_X0_roomOnRail_5 (ch : Nat) : Nat → Int32 → Int32 → Int32 → Int32 → wk_T → Option (Int32 × wk_T)
  | 0, _, _, _, _, _ => none
  | n + 1, v1, v2, v3, v4, M => (if (M 0 ch 0 1) ≤ v4 then (some ((-4), M)) else wk_gd (¬ (v4 < 0 ∨ 8 ≤ v4.toNatClampNeg)) ((if (M 6 ch v4.toNatClampNeg 4) = v1 then (if v3 = v2 then (some (v4, M)) else wk_lt (v3 + 1) (fun x5 => (f_X0_roomOnRail_39 ch (f_X0_roomOnRail_5 ch n) v1 v2 x5 v4 M))) else (f_X0_roomOnRail_39 ch (f_X0_roomOnRail_5 ch n) v1 v2 v3 v4 M))))
def f_X0_roomOnRail (ch : Nat) (v1 : Int32) (v2 : Int32) (M : wk_T) : Option (Int32 × wk_T) := (f_X0_roomOnRail_5 ch wk_fuel v1 v2 0 0 M)
set_option maxRecDepth 20000 in
theorem q_X0_roomOnRail {s : State} {args : Array Value} (hts : ∀ w ∈ wsX0_roomOnRail, w.before args s = true) : (Cond.fieldLink RX0 31 "WokenRooms$Chip" "roomCount" "I").before args s = true ∧ (Cond.fieldLink RX0 11 "WokenRooms$Chip" "rooms" "[LWokenRooms$Room;").before args s = true ∧ (Cond.fieldLink RX0 89 "WokenRooms$Room" "rail" "I").before args s = true := ⟨hts _ (List.mem_of_getElem? (i := 1) rfl), hts _ (List.mem_of_getElem? (i := 2) rfl), hts _ (List.mem_of_getElem? (i := 3) rfl)⟩
set_option maxRecDepth 100000 in
set_option maxHeartbeats 4000000 in
theorem w_X0_roomOnRail_39 {ch : Nat} {r0 : Int32} (CX : wk_X p l e R s m args below meth c cells slots Q cX0_roomOnRail 5 RX0 wsX0_roomOnRail D y B Lk A 0 0) (RT : wk_Ri p l e R s m args below meth c cells slots Q cX0_roomOnRail D y B Lk A r0 MM) (hc : ch < 7) {k5 : Int32 → Int32 → Int32 → Int32 → wk_T → Option (Int32 × wk_T)} (hk5 : ∀ (v1 : Int32) (v2 : Int32) (v3 : Int32) (v4 : Int32) (M : wk_T) (H : Heap) (locs : List Loc) (ls : Array Slot), k5 v1 v2 v3 v4 M = some (r0, MM) → lv_has ls 5 [(0, .ref (B 0 ch 0)), (1, .int v1), (2, .int v2), (3, .int v3), (4, .int v4)] → wk_H D y B Lk M H → va_S A s.heap H locs → W p l e R s m args below meth c H locs cells slots Q (F0 m 5 ls [])) {v1 : Int32} {v2 : Int32} {v3 : Int32} {v4 : Int32} {M : wk_T} {H : Heap} {locs : List Loc} {ls : Array Slot} (h : f_X0_roomOnRail_39 ch k5 v1 v2 v3 v4 M = some (r0, MM)) (hl : lv_has ls 5 [(0, .ref (B 0 ch 0)), (1, .int v1), (2, .int v2), (3, .int v3), (4, .int v4)]) (hP : wk_H D y B Lk M H) (hS : va_S A s.heap H locs) : W p l e R s m args below meth c H locs cells slots Q (F0 m 39 ls []) := by
  obtain ⟨⟨hx, hb, hml, hown, hts⟩, hK, hI, hL, hA, hfr, hlo, hcs⟩ := id CX
  obtain ⟨q1, q2, q3⟩ := q_X0_roomOnRail hts
  unfold f_X0_roomOnRail_39 at h
  obtain ⟨x1, ex1, h⟩ := wk_lt_e h
  refine lv_iinc (v := x1) (lv' := [(4, .int x1), (0, .ref (B 0 ch 0)), (1, .int v1), (2, .int v2), (3, .int v3)]) hx hb dX0_roomOnRail_39 hl (k := 4) rfl (by rw [← ex1]; rfl) (by decide) rfl (fun ls hl => ?_)
  refine lv_goto (tgt := 5) hx hb dX0_roomOnRail_42 (by decide) ?_
  exact hk5 _ _ _ _ _ _ _ _ h (lv_sub hl [1, 2, 3, 4, 0] rfl) hP hS
set_option maxRecDepth 100000 in
set_option maxHeartbeats 4000000 in
theorem w_X0_roomOnRail_5 {ch : Nat} {r0 : Int32} (CX : wk_X p l e R s m args below meth c cells slots Q cX0_roomOnRail 5 RX0 wsX0_roomOnRail D y B Lk A 0 0) (RT : wk_Ri p l e R s m args below meth c cells slots Q cX0_roomOnRail D y B Lk A r0 MM) (hc : ch < 7) : ∀ (n : Nat) (v1 : Int32) (v2 : Int32) (v3 : Int32) (v4 : Int32) (M : wk_T) (H : Heap) (locs : List Loc) (ls : Array Slot), f_X0_roomOnRail_5 ch n v1 v2 v3 v4 M = some (r0, MM) → lv_has ls 5 [(0, .ref (B 0 ch 0)), (1, .int v1), (2, .int v2), (3, .int v3), (4, .int v4)] → wk_H D y B Lk M H → va_S A s.heap H locs → W p l e R s m args below meth c H locs cells slots Q (F0 m 5 ls []) := by
  obtain ⟨⟨hx, hb, hml, hown, hts⟩, hK, hI, hL, hA, hfr, hlo, hcs⟩ := id CX
  obtain ⟨q1, q2, q3⟩ := q_X0_roomOnRail hts
  intro n
  induction n with
  | zero =>
    intro v1 v2 v3 v4 M H locs ls h
    exact absurd h (by rw [f_X0_roomOnRail_5]; exact fun z => nomatch z)
  | succ n ih =>
    intro v1 v2 v3 v4 M H locs ls h hl hP hS
    rw [f_X0_roomOnRail_5] at h
    refine lv_iload hx hb dX0_roomOnRail_5 (lv_at hl 4 rfl) ?_
    refine lv_aload_n hx hb dX0_roomOnRail_7 rfl (lv_at hl 0 rfl) ?_
    refine wk_get (ref := "WokenRooms$Chip") (C := RX0) (T := TX0) (N := 8) (ci := 0) (v := .int (M 0 ch 0 1)) hx hb hts (fun _ h => List.mem_cons_of_mem _ (List.mem_append_left _ (List.mem_append_right _ h))) hown hK hP (wk_l0 hL hc 0 (by decide)) wk_c0 rfl 1 (by decide) q1 rfl rfl dX0_roomOnRail_8 ?_
    refine lv_icmp_ge (tgt := 45) hx hb dX0_roomOnRail_11 (by decide) (fun g1 => ?_) (fun g1 => ?_)
    · have h := wk_p g1 h
      refine lv_bipush (v := (-4)) hx hb dX0_roomOnRail_45 (by decide) ?_
      exact RT _ _ _ _ _ _ h hP hS dX0_roomOnRail_47
    · have h := wk_n g1 h
      refine lv_aload_n hx hb dX0_roomOnRail_14 rfl (lv_at hl 0 rfl) ?_
      refine wk_get (ref := "WokenRooms$Chip") (C := RX0) (T := TX0) (N := 8) (ci := 0) (v := .ref (B 1 ch 0)) hx hb hts (fun _ h => List.mem_cons_of_mem _ (List.mem_append_left _ (List.mem_append_right _ h))) hown hK hP (wk_l0 hL hc 0 (by decide)) wk_c0 rfl 0 (by decide) q2 rfl rfl dX0_roomOnRail_15 ?_
      refine lv_iload hx hb dX0_roomOnRail_18 (lv_at hl 4 rfl) ?_
      obtain ⟨g2, h⟩ := wk_gd_e h
      refine wk_aaldR (j := v4.toNatClampNeg) hx hb hK hP (wk_l0 hL hc 1 (by decide)) g2 rfl dX0_roomOnRail_20 ?_
      refine wk_get (ref := "WokenRooms$Room") (C := RX2) (T := TX2) (N := 15) (ci := 2) (v := .int (M 6 ch v4.toNatClampNeg 4)) hx hb hts (fun _ h => List.mem_cons_of_mem _ (List.mem_append_right _ h)) hown hK hP (wk_l6 hL hc (wk_ix g2) 6 (by decide) (by decide)) wk_c6 rfl 4 (by decide) q3 rfl rfl dX0_roomOnRail_21 ?_
      refine lv_iload_n hx hb dX0_roomOnRail_24 rfl (lv_at hl 1 rfl) ?_
      refine lv_icmp_ne (tgt := 39) hx hb dX0_roomOnRail_25 (by decide) (fun g3 => ?_) (fun g3 => ?_)
      · have h := wk_n g3 h
        exact w_X0_roomOnRail_39 CX RT hc ih h (lv_sub hl [0, 1, 2, 3, 4] rfl) hP hS
      · have h := wk_p g3 h
        refine lv_iload_n hx hb dX0_roomOnRail_28 rfl (lv_at hl 3 rfl) ?_
        refine lv_iload_n hx hb dX0_roomOnRail_29 rfl (lv_at hl 2 rfl) ?_
        refine lv_icmp_ne (tgt := 36) hx hb dX0_roomOnRail_30 (by decide) (fun g4 => ?_) (fun g4 => ?_)
        · have h := wk_n g4 h
          obtain ⟨x5, ex5, h⟩ := wk_lt_e h
          refine lv_iinc (v := x5) (lv' := [(3, .int x5), (0, .ref (B 0 ch 0)), (1, .int v1), (2, .int v2), (4, .int v4)]) hx hb dX0_roomOnRail_36 hl (k := 3) rfl (by rw [← ex5]; rfl) (by decide) rfl (fun ls hl => ?_)
          exact w_X0_roomOnRail_39 CX RT hc ih h (lv_sub hl [1, 2, 3, 0, 4] rfl) hP hS
        · have h := wk_p g4 h
          refine lv_iload hx hb dX0_roomOnRail_33 (lv_at hl 4 rfl) ?_
          exact RT _ _ _ _ _ _ h hP hS dX0_roomOnRail_35
set_option maxRecDepth 100000 in
set_option maxHeartbeats 4000000 in
theorem w_X0_roomOnRail_0 {ch : Nat} {r0 : Int32} (CX : wk_X p l e R s m args below meth c cells slots Q cX0_roomOnRail 5 RX0 wsX0_roomOnRail D y B Lk A 0 0) (RT : wk_Ri p l e R s m args below meth c cells slots Q cX0_roomOnRail D y B Lk A r0 MM) (hc : ch < 7) {v1 : Int32} {v2 : Int32} {M : wk_T} {H : Heap} {locs : List Loc} {ls : Array Slot} (h : f_X0_roomOnRail ch v1 v2 M = some (r0, MM)) (hl : lv_has ls 5 [(0, .ref (B 0 ch 0)), (1, .int v1), (2, .int v2)]) (hP : wk_H D y B Lk M H) (hS : va_S A s.heap H locs) : W p l e R s m args below meth c H locs cells slots Q (F0 m 0 ls []) := by
  obtain ⟨⟨hx, hb, hml, hown, hts⟩, hK, hI, hL, hA, hfr, hlo, hcs⟩ := id CX
  obtain ⟨q1, q2, q3⟩ := q_X0_roomOnRail hts
  unfold f_X0_roomOnRail at h
  refine lv_iconst (v := 0) hx hb dX0_roomOnRail_0 (by decide) ?_
  refine lv_istore_n (lv' := [(3, .int 0), (0, .ref (B 0 ch 0)), (1, .int v1), (2, .int v2)]) hx hb dX0_roomOnRail_1 rfl hl (by decide) rfl (fun ls hl => ?_)
  refine lv_iconst (v := 0) hx hb dX0_roomOnRail_2 (by decide) ?_
  refine lv_istore (lv' := [(4, .int 0), (3, .int 0), (0, .ref (B 0 ch 0)), (1, .int v1), (2, .int v2)]) hx hb dX0_roomOnRail_3 hl (by decide) rfl (fun ls hl => ?_)
  exact w_X0_roomOnRail_5 CX RT hc wk_fuel _ _ _ _ _ _ _ _ h (lv_sub hl [2, 3, 4, 1, 0] rfl) hP hS
set_option maxRecDepth 100000 in
set_option maxHeartbeats 4000000 in
theorem m_X0_roomOnRail (l : Launch) {D : va_G} {y : Nat → ClassId} {B : Nat → Nat → Nat → Nat} {Lk : Nat → Nat → Nat → Prop} (hI : wk_I B Lk) (hL : wk_L Lk) {ch : Nat} (hc : ch < 7) {v1 : Int32} {v2 : Int32} {M : wk_T} {r0 : Int32} {MM : wk_T} (hf : f_X0_roomOnRail ch v1 v2 M = some (r0, MM)) : wk_Mi l yX0_roomOnRail wsX0_roomOnRail 0 0 D y B Lk [.ref (B 0 ch 0), .int v1, .int v2] M r0 MM :=
  wk_ofI (own := RX0) (bytes := cX0_roomOnRail) (maxL := 5) (ret := some .int) (by decide +kernel) rfl rfl (Or.inl rfl) (Nat.le_of_ble_eq_true rfl) hI hL (fun p e s m args below meth c ls CX RTi RTz hl hP hS => w_X0_roomOnRail_0 CX (RTi rfl) hc hf hl hP hS)
def f_X0_setLimit (ch : Nat) (v1 : Int32) (v2 : Int32) (M : wk_T) : Option (Int32 × wk_T) := wk_cl (f_X3_outside v1 0 1 M) (fun r1 M2 => (if r1 = 0 then wk_cl (f_X3_outside v2 1 4 M2) (fun r4 M5 => (if r4 = 0 then wk_gd (¬ (v1 < 0 ∨ 2 ≤ v1.toNatClampNeg)) (wk_lt ((M5 2 ch 0 (v1.toNatClampNeg))) (fun x8 => wk_gd (¬ (v1 < 0 ∨ 2 ≤ v1.toNatClampNeg)) (wk_mu (wk_up M5 2 ch 0 (v1.toNatClampNeg) v2) (fun M10 => (some (x8, M10)))))) else (some ((-1), M5)))) else (some ((-1), M2))))
set_option maxRecDepth 20000 in
theorem q_X0_setLimit {s : State} {args : Array Value} (hts : ∀ w ∈ wsX0_setLimit, w.before args s = true) : (Cond.fieldLink RX0 17 "WokenRooms$Chip" "limits" "[I").before args s = true ∧ (Cond.static yX3_outside).before args s = true ∧ (Cond.initialized RX3).before args s = true := ⟨hts _ (List.mem_of_getElem? (i := 1) rfl), hts _ (List.mem_of_getElem? (i := 2) rfl), hts _ (List.mem_of_getElem? (i := 3) rfl)⟩
set_option maxRecDepth 100000 in
set_option maxHeartbeats 4000000 in
theorem w_X0_setLimit_0 {ch : Nat} {r0 : Int32} (CX : wk_X p l e R s m args below meth c cells slots Q cX0_setLimit 4 RX0 wsX0_setLimit D y B Lk A 1 22) (RT : wk_Ri p l e R s m args below meth c cells slots Q cX0_setLimit D y B Lk A r0 MM) (hc : ch < 7) {v1 : Int32} {v2 : Int32} {M : wk_T} {H : Heap} {locs : List Loc} {ls : Array Slot} (h : f_X0_setLimit ch v1 v2 M = some (r0, MM)) (hl : lv_has ls 4 [(0, .ref (B 0 ch 0)), (1, .int v1), (2, .int v2)]) (hP : wk_H D y B Lk M H) (hS : va_S A s.heap H locs) : W p l e R s m args below meth c H locs cells slots Q (F0 m 0 ls []) := by
  obtain ⟨⟨hx, hb, hml, hown, hts⟩, hK, hI, hL, hA, hfr, hlo, hcs⟩ := id CX
  obtain ⟨q1, q2, q3⟩ := q_X0_setLimit hts
  unfold f_X0_setLimit at h
  refine lv_iload_n hx hb dX0_setLimit_0 rfl (lv_at hl 1 rfl) ?_
  refine lv_iconst (v := 0) hx hb dX0_setLimit_1 (by decide) ?_
  refine lv_iconst (v := 1) hx hb dX0_setLimit_2 (by decide) ?_
  obtain ⟨r1, M2, er1, h⟩ := wk_cl_e h
  refine wk_cNi (As := [.int v1, .int 0, .int 1]) (rest := []) ⟨hx, hb, hml, hown, hts⟩ (m_X3_outside l hI hL er1) (va_cnB 3 hts gX0_setLimit_X3_outside_n82 rfl rfl rfl hK.2 q3 (by decide +kernel) ⟨Nat.le_trans (by decide) hfr, Nat.le_trans (by decide) hlo⟩) q2 hK hP hS hA rfl hl.1 (lv_room (Nat.le_of_ble_eq_true rfl)) hcs dX0_setLimit_3 (fun H locs hP hS => ?_)
  refine lv_if_ne (tgt := 18) hx hb dX0_setLimit_6 (by decide) (fun g3 => ?_) (fun g3 => ?_)
  · have h := wk_n g3 h
    refine lv_iconst (v := (-1)) hx hb dX0_setLimit_18 (by decide) ?_
    exact RT _ _ _ _ _ _ h hP hS dX0_setLimit_19
  · have h := wk_p g3 h
    refine lv_iload_n hx hb dX0_setLimit_9 rfl (lv_at hl 2 rfl) ?_
    refine lv_iconst (v := 1) hx hb dX0_setLimit_10 (by decide) ?_
    refine lv_iconst (v := 4) hx hb dX0_setLimit_11 (by decide) ?_
    obtain ⟨r4, M5, er4, h⟩ := wk_cl_e h
    refine wk_cNi (As := [.int v2, .int 1, .int 4]) (rest := []) ⟨hx, hb, hml, hown, hts⟩ (m_X3_outside l hI hL er4) (va_cnB 3 hts gX0_setLimit_X3_outside_n82 rfl rfl rfl hK.2 q3 (by decide +kernel) ⟨Nat.le_trans (by decide) hfr, Nat.le_trans (by decide) hlo⟩) q2 hK hP hS hA rfl hl.1 (lv_room (Nat.le_of_ble_eq_true rfl)) hcs dX0_setLimit_12 (fun H locs hP hS => ?_)
    refine lv_if_eq (tgt := 20) hx hb dX0_setLimit_15 (by decide) (fun g6 => ?_) (fun g6 => ?_)
    · have h := wk_p g6 h
      refine lv_aload_n hx hb dX0_setLimit_20 rfl (lv_at hl 0 rfl) ?_
      refine wk_get (ref := "WokenRooms$Chip") (C := RX0) (T := TX0) (N := 8) (ci := 0) (v := .ref (B 2 ch 0)) hx hb hts (fun _ h => List.mem_cons_of_mem _ (List.mem_append_right _ h)) hown hK hP (wk_l0 hL hc 0 (by decide)) wk_c0 rfl 2 (by decide) q1 rfl rfl dX0_setLimit_21 ?_
      refine lv_iload_n hx hb dX0_setLimit_24 rfl (lv_at hl 1 rfl) ?_
      obtain ⟨g7, h⟩ := wk_gd_e h
      refine wk_iald (j := v1.toNatClampNeg) hx hb hK hP (wk_l0 hL hc 2 (by decide)) wk_c2 g7 rfl dX0_setLimit_25 ?_
      obtain ⟨x8, ex8, h⟩ := wk_lt_e h
      refine wk_topi ex8 ?_
      refine lv_istore_n (lv' := [(3, .int x8), (0, .ref (B 0 ch 0)), (1, .int v1), (2, .int v2)]) hx hb dX0_setLimit_26 rfl hl (by decide) rfl (fun ls hl => ?_)
      refine lv_aload_n hx hb dX0_setLimit_27 rfl (lv_at hl 1 rfl) ?_
      refine wk_get (ref := "WokenRooms$Chip") (C := RX0) (T := TX0) (N := 8) (ci := 0) (v := .ref (B 2 ch 0)) hx hb hts (fun _ h => List.mem_cons_of_mem _ (List.mem_append_right _ h)) hown hK hP (wk_l0 hL hc 0 (by decide)) wk_c0 rfl 2 (by decide) q1 rfl rfl dX0_setLimit_28 ?_
      refine lv_iload_n hx hb dX0_setLimit_31 rfl (lv_at hl 2 rfl) ?_
      refine lv_iload_n hx hb dX0_setLimit_32 rfl (lv_at hl 3 rfl) ?_
      obtain ⟨g9, h⟩ := wk_gd_e h
      obtain ⟨M10, eM10, h⟩ := wk_mu_e h
      refine wk_iast (j := v1.toNatClampNeg) hx hb hK hP hI hS hA (wk_l0 hL hc 2 (by decide)) wk_c2 g9 rfl (by rfl) dX0_setLimit_33 (fun H locs hP hS => ?_)
      rw [eM10] at hP
      refine lv_iload_n hx hb dX0_setLimit_34 rfl (lv_at hl 0 rfl) ?_
      exact RT _ _ _ _ _ _ h hP hS dX0_setLimit_35
    · have h := wk_n g6 h
      refine lv_iconst (v := (-1)) hx hb dX0_setLimit_18 (by decide) ?_
      exact RT _ _ _ _ _ _ h hP hS dX0_setLimit_19
set_option maxRecDepth 100000 in
set_option maxHeartbeats 4000000 in
theorem m_X0_setLimit (l : Launch) {D : va_G} {y : Nat → ClassId} {B : Nat → Nat → Nat → Nat} {Lk : Nat → Nat → Nat → Prop} (hI : wk_I B Lk) (hL : wk_L Lk) {ch : Nat} (hc : ch < 7) {v1 : Int32} {v2 : Int32} {M : wk_T} {r0 : Int32} {MM : wk_T} (hf : f_X0_setLimit ch v1 v2 M = some (r0, MM)) : wk_Mi l yX0_setLimit wsX0_setLimit 1 22 D y B Lk [.ref (B 0 ch 0), .int v1, .int v2] M r0 MM :=
  wk_ofI (own := RX0) (bytes := cX0_setLimit) (maxL := 4) (ret := some .int) (by decide +kernel) rfl rfl (Or.inl rfl) (Nat.le_of_ble_eq_true rfl) hI hL (fun p e s m args below meth c ls CX RTi RTz hl hP hS => w_X0_setLimit_0 CX (RTi rfl) hc hf hl hP hS)
def f_X0_setPolicy (ch : Nat) (v1 : Int32) (v2 : Int32) (v3 : Int32) (M : wk_T) : Option (Int32 × wk_T) := wk_cl (f_X0_hasRoom ch v1 M) (fun r1 M2 => (if r1 = 0 then (some ((-1), M2)) else wk_cl (f_X3_outside v2 0 99 M2) (fun r4 M5 => (if r4 = 0 then wk_cl (f_X3_outside v3 0 2 M5) (fun r7 M8 => (if r7 = 0 then wk_gd (¬ (v1 < 0 ∨ 8 ≤ v1.toNatClampNeg)) (wk_lt (((10 * (M8 6 ch v1.toNatClampNeg 5)) + (M8 6 ch v1.toNatClampNeg 6))) (fun x11 => wk_mu (wk_up M8 6 ch v1.toNatClampNeg 5 v2) (fun M12 => wk_mu (wk_up M12 6 ch v1.toNatClampNeg 6 v3) (fun M13 => (some (x11, M13)))))) else (some ((-1), M8)))) else (some ((-1), M5))))))
set_option maxRecDepth 20000 in
theorem q_X0_setPolicy {s : State} {args : Array Value} (hts : ∀ w ∈ wsX0_setPolicy, w.before args s = true) : (Cond.fieldLink RX0 11 "WokenRooms$Chip" "rooms" "[LWokenRooms$Room;").before args s = true ∧ (Cond.fieldLink RX0 98 "WokenRooms$Room" "timeOut" "I").before args s = true ∧ (Cond.fieldLink RX0 101 "WokenRooms$Room" "guess" "I").before args s = true ∧ (Cond.static yX3_outside).before args s = true ∧ (Cond.initialized RX3).before args s = true := ⟨hts _ (List.mem_of_getElem? (i := 1) rfl), hts _ (List.mem_of_getElem? (i := 2) rfl), hts _ (List.mem_of_getElem? (i := 3) rfl), hts _ (List.mem_of_getElem? (i := 10) rfl), hts _ (List.mem_of_getElem? (i := 11) rfl)⟩
set_option maxRecDepth 100000 in
set_option maxHeartbeats 4000000 in
theorem w_X0_setPolicy_0 {ch : Nat} {r0 : Int32} (CX : wk_X p l e R s m args below meth c cells slots Q cX0_setPolicy 6 RX0 wsX0_setPolicy D y B Lk A 1 22) (RT : wk_Ri p l e R s m args below meth c cells slots Q cX0_setPolicy D y B Lk A r0 MM) (hc : ch < 7) {v1 : Int32} {v2 : Int32} {v3 : Int32} {M : wk_T} {H : Heap} {locs : List Loc} {ls : Array Slot} (h : f_X0_setPolicy ch v1 v2 v3 M = some (r0, MM)) (hl : lv_has ls 6 [(0, .ref (B 0 ch 0)), (1, .int v1), (2, .int v2), (3, .int v3)]) (hP : wk_H D y B Lk M H) (hS : va_S A s.heap H locs) : W p l e R s m args below meth c H locs cells slots Q (F0 m 0 ls []) := by
  obtain ⟨⟨hx, hb, hml, hown, hts⟩, hK, hI, hL, hA, hfr, hlo, hcs⟩ := id CX
  obtain ⟨q1, q2, q3, q10, q11⟩ := q_X0_setPolicy hts
  unfold f_X0_setPolicy at h
  refine lv_aload_n hx hb dX0_setPolicy_0 rfl (lv_at hl 0 rfl) ?_
  refine lv_iload_n hx hb dX0_setPolicy_1 rfl (lv_at hl 1 rfl) ?_
  obtain ⟨r1, M2, er1, h⟩ := wk_cl_e h
  refine wk_cVi (As := [.int v1]) (rest := []) ⟨hx, hb, hml, hown, hts⟩ (m_X0_hasRoom l hI hL hc er1) (cwV 1 hts gX0_setPolicy_X0_hasRoom rfl rfl rfl (by decide +kernel) ⟨Nat.le_trans (by decide) hfr, Nat.le_trans (by decide) hlo⟩) hK hP hS hA (wk_l0 hL hc 0 (by decide)) wk_c0 rfl rfl hl.1 (lv_room (Nat.le_of_ble_eq_true rfl)) hcs dX0_setPolicy_2 (fun H locs hP hS => ?_)
  refine lv_if_eq (tgt := 27) hx hb dX0_setPolicy_5 (by decide) (fun g3 => ?_) (fun g3 => ?_)
  · have h := wk_p g3 h
    refine lv_iconst (v := (-1)) hx hb dX0_setPolicy_27 (by decide) ?_
    exact RT _ _ _ _ _ _ h hP hS dX0_setPolicy_28
  · have h := wk_n g3 h
    refine lv_iload_n hx hb dX0_setPolicy_8 rfl (lv_at hl 2 rfl) ?_
    refine lv_iconst (v := 0) hx hb dX0_setPolicy_9 (by decide) ?_
    refine lv_bipush (v := 99) hx hb dX0_setPolicy_10 (by decide) ?_
    obtain ⟨r4, M5, er4, h⟩ := wk_cl_e h
    refine wk_cNi (As := [.int v2, .int 0, .int 99]) (rest := []) ⟨hx, hb, hml, hown, hts⟩ (m_X3_outside l hI hL er4) (va_cnB 3 hts gX0_setPolicy_X3_outside_n82 rfl rfl rfl hK.2 q11 (by decide +kernel) ⟨Nat.le_trans (by decide) hfr, Nat.le_trans (by decide) hlo⟩) q10 hK hP hS hA rfl hl.1 (lv_room (Nat.le_of_ble_eq_true rfl)) hcs dX0_setPolicy_12 (fun H locs hP hS => ?_)
    refine lv_if_ne (tgt := 27) hx hb dX0_setPolicy_15 (by decide) (fun g6 => ?_) (fun g6 => ?_)
    · have h := wk_n g6 h
      refine lv_iconst (v := (-1)) hx hb dX0_setPolicy_27 (by decide) ?_
      exact RT _ _ _ _ _ _ h hP hS dX0_setPolicy_28
    · have h := wk_p g6 h
      refine lv_iload_n hx hb dX0_setPolicy_18 rfl (lv_at hl 3 rfl) ?_
      refine lv_iconst (v := 0) hx hb dX0_setPolicy_19 (by decide) ?_
      refine lv_iconst (v := 2) hx hb dX0_setPolicy_20 (by decide) ?_
      obtain ⟨r7, M8, er7, h⟩ := wk_cl_e h
      refine wk_cNi (As := [.int v3, .int 0, .int 2]) (rest := []) ⟨hx, hb, hml, hown, hts⟩ (m_X3_outside l hI hL er7) (va_cnB 3 hts gX0_setPolicy_X3_outside_n82 rfl rfl rfl hK.2 q11 (by decide +kernel) ⟨Nat.le_trans (by decide) hfr, Nat.le_trans (by decide) hlo⟩) q10 hK hP hS hA rfl hl.1 (lv_room (Nat.le_of_ble_eq_true rfl)) hcs dX0_setPolicy_21 (fun H locs hP hS => ?_)
      refine lv_if_eq (tgt := 29) hx hb dX0_setPolicy_24 (by decide) (fun g9 => ?_) (fun g9 => ?_)
      · have h := wk_p g9 h
        refine lv_aload_n hx hb dX0_setPolicy_29 rfl (lv_at hl 0 rfl) ?_
        refine wk_get (ref := "WokenRooms$Chip") (C := RX0) (T := TX0) (N := 8) (ci := 0) (v := .ref (B 1 ch 0)) hx hb hts (fun _ h => List.mem_cons_of_mem _ (List.mem_append_left _ (List.mem_append_right _ h))) hown hK hP (wk_l0 hL hc 0 (by decide)) wk_c0 rfl 0 (by decide) q1 rfl rfl dX0_setPolicy_30 ?_
        refine lv_iload_n hx hb dX0_setPolicy_33 rfl (lv_at hl 1 rfl) ?_
        obtain ⟨g10, h⟩ := wk_gd_e h
        refine wk_aaldR (j := v1.toNatClampNeg) hx hb hK hP (wk_l0 hL hc 1 (by decide)) g10 rfl dX0_setPolicy_34 ?_
        refine lv_astore (lv' := [(4, .ref (B 6 ch v1.toNatClampNeg)), (0, .ref (B 0 ch 0)), (1, .int v1), (2, .int v2), (3, .int v3)]) hx hb dX0_setPolicy_35 hl (by decide) rfl (fun ls hl => ?_)
        refine lv_bipush (v := 10) hx hb dX0_setPolicy_37 (by decide) ?_
        refine lv_aload hx hb dX0_setPolicy_39 (lv_at hl 0 rfl) ?_
        refine wk_get (ref := "WokenRooms$Room") (C := RX2) (T := TX2) (N := 15) (ci := 2) (v := .int (M8 6 ch v1.toNatClampNeg 5)) hx hb hts (fun _ h => List.mem_cons_of_mem _ (List.mem_append_right _ h)) hown hK hP (wk_l6 hL hc (wk_ix g10) 6 (by decide) (by decide)) wk_c6 rfl 5 (by decide) q2 rfl rfl dX0_setPolicy_41 ?_
        refine lv_imul hx hb dX0_setPolicy_44 ?_
        refine lv_aload hx hb dX0_setPolicy_45 (lv_at hl 0 rfl) ?_
        refine wk_get (ref := "WokenRooms$Room") (C := RX2) (T := TX2) (N := 15) (ci := 2) (v := .int (M8 6 ch v1.toNatClampNeg 6)) hx hb hts (fun _ h => List.mem_cons_of_mem _ (List.mem_append_right _ h)) hown hK hP (wk_l6 hL hc (wk_ix g10) 6 (by decide) (by decide)) wk_c6 rfl 6 (by decide) q3 rfl rfl dX0_setPolicy_47 ?_
        refine lv_iadd hx hb dX0_setPolicy_50 ?_
        obtain ⟨x11, ex11, h⟩ := wk_lt_e h
        refine wk_topi ex11 ?_
        refine lv_istore (lv' := [(5, .int x11), (4, .ref (B 6 ch v1.toNatClampNeg)), (0, .ref (B 0 ch 0)), (1, .int v1), (2, .int v2), (3, .int v3)]) hx hb dX0_setPolicy_51 hl (by decide) rfl (fun ls hl => ?_)
        refine lv_aload hx hb dX0_setPolicy_53 (lv_at hl 1 rfl) ?_
        refine lv_iload_n hx hb dX0_setPolicy_55 rfl (lv_at hl 4 rfl) ?_
        obtain ⟨M12, eM12, h⟩ := wk_mu_e h
        refine wk_put (ref := "WokenRooms$Room") (C := RX2) (T := TX2) (N := 15) (ci := 2) hx hb hts (fun _ h => List.mem_cons_of_mem _ (List.mem_append_right _ h)) tyX2 tyX2_ok nmX2 hown hK hP hI hS hA (wk_l6 hL hc (wk_ix g10) 6 (by decide) (by decide)) wk_c6 rfl 5 (by decide) q2 rfl rfl (by decide +kernel) (Nat.le_of_ble_eq_true rfl) (by rfl) dX0_setPolicy_56 (fun H locs hP hS => ?_)
        rw [eM12] at hP
        refine lv_aload hx hb dX0_setPolicy_59 (lv_at hl 1 rfl) ?_
        refine lv_iload_n hx hb dX0_setPolicy_61 rfl (lv_at hl 5 rfl) ?_
        obtain ⟨M13, eM13, h⟩ := wk_mu_e h
        refine wk_put (ref := "WokenRooms$Room") (C := RX2) (T := TX2) (N := 15) (ci := 2) hx hb hts (fun _ h => List.mem_cons_of_mem _ (List.mem_append_right _ h)) tyX2 tyX2_ok nmX2 hown hK hP hI hS hA (wk_l6 hL hc (wk_ix g10) 6 (by decide) (by decide)) wk_c6 rfl 6 (by decide) q3 rfl rfl (by decide +kernel) (Nat.le_of_ble_eq_true rfl) (by rfl) dX0_setPolicy_62 (fun H locs hP hS => ?_)
        rw [eM13] at hP
        refine lv_iload hx hb dX0_setPolicy_65 (lv_at hl 0 rfl) ?_
        exact RT _ _ _ _ _ _ h hP hS dX0_setPolicy_67
      · have h := wk_n g9 h
        refine lv_iconst (v := (-1)) hx hb dX0_setPolicy_27 (by decide) ?_
        exact RT _ _ _ _ _ _ h hP hS dX0_setPolicy_28
set_option maxRecDepth 100000 in
set_option maxHeartbeats 4000000 in
theorem m_X0_setPolicy (l : Launch) {D : va_G} {y : Nat → ClassId} {B : Nat → Nat → Nat → Nat} {Lk : Nat → Nat → Nat → Prop} (hI : wk_I B Lk) (hL : wk_L Lk) {ch : Nat} (hc : ch < 7) {v1 : Int32} {v2 : Int32} {v3 : Int32} {M : wk_T} {r0 : Int32} {MM : wk_T} (hf : f_X0_setPolicy ch v1 v2 v3 M = some (r0, MM)) : wk_Mi l yX0_setPolicy wsX0_setPolicy 1 22 D y B Lk [.ref (B 0 ch 0), .int v1, .int v2, .int v3] M r0 MM :=
  wk_ofI (own := RX0) (bytes := cX0_setPolicy) (maxL := 6) (ret := some .int) (by decide +kernel) rfl rfl (Or.inl rfl) (Nat.le_of_ble_eq_true rfl) hI hL (fun p e s m args below meth c ls CX RTi RTz hl hP hS => w_X0_setPolicy_0 CX (RTi rfl) hc hf hl hP hS)
def f_X0_planUse (ch : Nat) (v1 : Int32) (v2 : Int32) (v3 : Int32) (M : wk_T) : Option (Int32 × wk_T) := wk_cl (f_X0_hasRoom ch v1 M) (fun r1 M2 => (if r1 = 0 then (some ((-1), M2)) else wk_cl (f_X3_outside v2 (M2 0 ch 0 7) 50000 M2) (fun r4 M5 => (if r4 = 0 then wk_cl (f_X3_outside v3 1 50 M5) (fun r7 M8 => (if r7 = 0 then (if (M8 0 ch 0 6) < 12 then wk_gd (¬ ((M8 0 ch 0 6) < 0 ∨ 12 ≤ (M8 0 ch 0 6).toNatClampNeg)) (wk_mu (wk_up M8 3 ch 0 ((M8 0 ch 0 6).toNatClampNeg) v1) (fun M12 => wk_gd (¬ ((M12 0 ch 0 6) < 0 ∨ 12 ≤ (M12 0 ch 0 6).toNatClampNeg)) (wk_mu (wk_up M12 4 ch 0 ((M12 0 ch 0 6).toNatClampNeg) v2) (fun M14 => wk_gd (¬ ((M14 0 ch 0 6) < 0 ∨ 12 ≤ (M14 0 ch 0 6).toNatClampNeg)) (wk_mu (wk_up M14 5 ch 0 ((M14 0 ch 0 6).toNatClampNeg) v3) (fun M16 => wk_mu (wk_up M16 0 ch 0 6 ((M16 0 ch 0 6) + 1)) (fun M17 => (some ((M17 0 ch 0 6), M17))))))))) else (some ((-3), M8))) else (some ((-1), M8)))) else (some ((-1), M5))))))
set_option maxRecDepth 20000 in
theorem q_X0_planUse {s : State} {args : Array Value} (hts : ∀ w ∈ wsX0_planUse, w.before args s = true) : (Cond.fieldLink RX0 48 "WokenRooms$Chip" "time" "I").before args s = true ∧ (Cond.constant RX0 104 (50000)).before args s = true ∧ (Cond.fieldLink RX0 45 "WokenRooms$Chip" "useCount" "I").before args s = true ∧ (Cond.fieldLink RX0 21 "WokenRooms$Chip" "useRooms" "[I").before args s = true ∧ (Cond.fieldLink RX0 24 "WokenRooms$Chip" "useTimes" "[I").before args s = true ∧ (Cond.fieldLink RX0 27 "WokenRooms$Chip" "useLengths" "[I").before args s = true ∧ (Cond.static yX3_outside).before args s = true ∧ (Cond.initialized RX3).before args s = true := ⟨hts _ (List.mem_of_getElem? (i := 1) rfl), hts _ (List.mem_of_getElem? (i := 2) rfl), hts _ (List.mem_of_getElem? (i := 3) rfl), hts _ (List.mem_of_getElem? (i := 4) rfl), hts _ (List.mem_of_getElem? (i := 5) rfl), hts _ (List.mem_of_getElem? (i := 6) rfl), hts _ (List.mem_of_getElem? (i := 13) rfl), hts _ (List.mem_of_getElem? (i := 14) rfl)⟩
set_option maxRecDepth 100000 in
set_option maxHeartbeats 4000000 in
theorem w_X0_planUse_0 {ch : Nat} {r0 : Int32} (CX : wk_X p l e R s m args below meth c cells slots Q cX0_planUse 4 RX0 wsX0_planUse D y B Lk A 1 22) (RT : wk_Ri p l e R s m args below meth c cells slots Q cX0_planUse D y B Lk A r0 MM) (hc : ch < 7) {v1 : Int32} {v2 : Int32} {v3 : Int32} {M : wk_T} {H : Heap} {locs : List Loc} {ls : Array Slot} (h : f_X0_planUse ch v1 v2 v3 M = some (r0, MM)) (hl : lv_has ls 4 [(0, .ref (B 0 ch 0)), (1, .int v1), (2, .int v2), (3, .int v3)]) (hP : wk_H D y B Lk M H) (hS : va_S A s.heap H locs) : W p l e R s m args below meth c H locs cells slots Q (F0 m 0 ls []) := by
  obtain ⟨⟨hx, hb, hml, hown, hts⟩, hK, hI, hL, hA, hfr, hlo, hcs⟩ := id CX
  obtain ⟨q1, q2, q3, q4, q5, q6, q13, q14⟩ := q_X0_planUse hts
  unfold f_X0_planUse at h
  refine lv_aload_n hx hb dX0_planUse_0 rfl (lv_at hl 0 rfl) ?_
  refine lv_iload_n hx hb dX0_planUse_1 rfl (lv_at hl 1 rfl) ?_
  obtain ⟨r1, M2, er1, h⟩ := wk_cl_e h
  refine wk_cVi (As := [.int v1]) (rest := []) ⟨hx, hb, hml, hown, hts⟩ (m_X0_hasRoom l hI hL hc er1) (cwV 1 hts gX0_planUse_X0_hasRoom rfl rfl rfl (by decide +kernel) ⟨Nat.le_trans (by decide) hfr, Nat.le_trans (by decide) hlo⟩) hK hP hS hA (wk_l0 hL hc 0 (by decide)) wk_c0 rfl rfl hl.1 (lv_room (Nat.le_of_ble_eq_true rfl)) hcs dX0_planUse_2 (fun H locs hP hS => ?_)
  refine lv_if_eq (tgt := 31) hx hb dX0_planUse_5 (by decide) (fun g3 => ?_) (fun g3 => ?_)
  · have h := wk_p g3 h
    refine lv_iconst (v := (-1)) hx hb dX0_planUse_31 (by decide) ?_
    exact RT _ _ _ _ _ _ h hP hS dX0_planUse_32
  · have h := wk_n g3 h
    refine lv_iload_n hx hb dX0_planUse_8 rfl (lv_at hl 2 rfl) ?_
    refine lv_aload_n hx hb dX0_planUse_9 rfl (lv_at hl 0 rfl) ?_
    refine wk_get (ref := "WokenRooms$Chip") (C := RX0) (T := TX0) (N := 8) (ci := 0) (v := .int (M2 0 ch 0 7)) hx hb hts (fun _ h => List.mem_cons_of_mem _ (List.mem_append_right _ h)) hown hK hP (wk_l0 hL hc 0 (by decide)) wk_c0 rfl 7 (by decide) q1 rfl rfl dX0_planUse_10 ?_
    refine lv_ldc (v := 50000) hx hb hown q2 dX0_planUse_13 ?_
    obtain ⟨r4, M5, er4, h⟩ := wk_cl_e h
    refine wk_cNi (As := [.int v2, .int (M2 0 ch 0 7), .int 50000]) (rest := []) ⟨hx, hb, hml, hown, hts⟩ (m_X3_outside l hI hL er4) (va_cnB 3 hts gX0_planUse_X3_outside_n82 rfl rfl rfl hK.2 q14 (by decide +kernel) ⟨Nat.le_trans (by decide) hfr, Nat.le_trans (by decide) hlo⟩) q13 hK hP hS hA rfl hl.1 (lv_room (Nat.le_of_ble_eq_true rfl)) hcs dX0_planUse_15 (fun H locs hP hS => ?_)
    refine lv_if_ne (tgt := 31) hx hb dX0_planUse_18 (by decide) (fun g6 => ?_) (fun g6 => ?_)
    · have h := wk_n g6 h
      refine lv_iconst (v := (-1)) hx hb dX0_planUse_31 (by decide) ?_
      exact RT _ _ _ _ _ _ h hP hS dX0_planUse_32
    · have h := wk_p g6 h
      refine lv_iload_n hx hb dX0_planUse_21 rfl (lv_at hl 3 rfl) ?_
      refine lv_iconst (v := 1) hx hb dX0_planUse_22 (by decide) ?_
      refine lv_bipush (v := 50) hx hb dX0_planUse_23 (by decide) ?_
      obtain ⟨r7, M8, er7, h⟩ := wk_cl_e h
      refine wk_cNi (As := [.int v3, .int 1, .int 50]) (rest := []) ⟨hx, hb, hml, hown, hts⟩ (m_X3_outside l hI hL er7) (va_cnB 3 hts gX0_planUse_X3_outside_n82 rfl rfl rfl hK.2 q14 (by decide +kernel) ⟨Nat.le_trans (by decide) hfr, Nat.le_trans (by decide) hlo⟩) q13 hK hP hS hA rfl hl.1 (lv_room (Nat.le_of_ble_eq_true rfl)) hcs dX0_planUse_25 (fun H locs hP hS => ?_)
      refine lv_if_eq (tgt := 33) hx hb dX0_planUse_28 (by decide) (fun g9 => ?_) (fun g9 => ?_)
      · have h := wk_p g9 h
        refine lv_aload_n hx hb dX0_planUse_33 rfl (lv_at hl 0 rfl) ?_
        refine wk_get (ref := "WokenRooms$Chip") (C := RX0) (T := TX0) (N := 8) (ci := 0) (v := .int (M8 0 ch 0 6)) hx hb hts (fun _ h => List.mem_cons_of_mem _ (List.mem_append_right _ h)) hown hK hP (wk_l0 hL hc 0 (by decide)) wk_c0 rfl 6 (by decide) q3 rfl rfl dX0_planUse_34 ?_
        refine lv_bipush (v := 12) hx hb dX0_planUse_37 (by decide) ?_
        refine lv_icmp_lt (tgt := 45) hx hb dX0_planUse_39 (by decide) (fun g10 => ?_) (fun g10 => ?_)
        · have h := wk_p g10 h
          refine lv_aload_n hx hb dX0_planUse_45 rfl (lv_at hl 0 rfl) ?_
          refine wk_get (ref := "WokenRooms$Chip") (C := RX0) (T := TX0) (N := 8) (ci := 0) (v := .ref (B 3 ch 0)) hx hb hts (fun _ h => List.mem_cons_of_mem _ (List.mem_append_right _ h)) hown hK hP (wk_l0 hL hc 0 (by decide)) wk_c0 rfl 3 (by decide) q4 rfl rfl dX0_planUse_46 ?_
          refine lv_aload_n hx hb dX0_planUse_49 rfl (lv_at hl 0 rfl) ?_
          refine wk_get (ref := "WokenRooms$Chip") (C := RX0) (T := TX0) (N := 8) (ci := 0) (v := .int (M8 0 ch 0 6)) hx hb hts (fun _ h => List.mem_cons_of_mem _ (List.mem_append_right _ h)) hown hK hP (wk_l0 hL hc 0 (by decide)) wk_c0 rfl 6 (by decide) q3 rfl rfl dX0_planUse_50 ?_
          refine lv_iload_n hx hb dX0_planUse_53 rfl (lv_at hl 1 rfl) ?_
          obtain ⟨g11, h⟩ := wk_gd_e h
          obtain ⟨M12, eM12, h⟩ := wk_mu_e h
          refine wk_iast (j := (M8 0 ch 0 6).toNatClampNeg) hx hb hK hP hI hS hA (wk_l0 hL hc 3 (by decide)) wk_c3 g11 rfl (by rfl) dX0_planUse_54 (fun H locs hP hS => ?_)
          rw [eM12] at hP
          refine lv_aload_n hx hb dX0_planUse_55 rfl (lv_at hl 0 rfl) ?_
          refine wk_get (ref := "WokenRooms$Chip") (C := RX0) (T := TX0) (N := 8) (ci := 0) (v := .ref (B 4 ch 0)) hx hb hts (fun _ h => List.mem_cons_of_mem _ (List.mem_append_right _ h)) hown hK hP (wk_l0 hL hc 0 (by decide)) wk_c0 rfl 4 (by decide) q5 rfl rfl dX0_planUse_56 ?_
          refine lv_aload_n hx hb dX0_planUse_59 rfl (lv_at hl 0 rfl) ?_
          refine wk_get (ref := "WokenRooms$Chip") (C := RX0) (T := TX0) (N := 8) (ci := 0) (v := .int (M12 0 ch 0 6)) hx hb hts (fun _ h => List.mem_cons_of_mem _ (List.mem_append_right _ h)) hown hK hP (wk_l0 hL hc 0 (by decide)) wk_c0 rfl 6 (by decide) q3 rfl rfl dX0_planUse_60 ?_
          refine lv_iload_n hx hb dX0_planUse_63 rfl (lv_at hl 2 rfl) ?_
          obtain ⟨g13, h⟩ := wk_gd_e h
          obtain ⟨M14, eM14, h⟩ := wk_mu_e h
          refine wk_iast (j := (M12 0 ch 0 6).toNatClampNeg) hx hb hK hP hI hS hA (wk_l0 hL hc 4 (by decide)) wk_c4 g13 rfl (by rfl) dX0_planUse_64 (fun H locs hP hS => ?_)
          rw [eM14] at hP
          refine lv_aload_n hx hb dX0_planUse_65 rfl (lv_at hl 0 rfl) ?_
          refine wk_get (ref := "WokenRooms$Chip") (C := RX0) (T := TX0) (N := 8) (ci := 0) (v := .ref (B 5 ch 0)) hx hb hts (fun _ h => List.mem_cons_of_mem _ (List.mem_append_right _ h)) hown hK hP (wk_l0 hL hc 0 (by decide)) wk_c0 rfl 5 (by decide) q6 rfl rfl dX0_planUse_66 ?_
          refine lv_aload_n hx hb dX0_planUse_69 rfl (lv_at hl 0 rfl) ?_
          refine wk_get (ref := "WokenRooms$Chip") (C := RX0) (T := TX0) (N := 8) (ci := 0) (v := .int (M14 0 ch 0 6)) hx hb hts (fun _ h => List.mem_cons_of_mem _ (List.mem_append_right _ h)) hown hK hP (wk_l0 hL hc 0 (by decide)) wk_c0 rfl 6 (by decide) q3 rfl rfl dX0_planUse_70 ?_
          refine lv_iload_n hx hb dX0_planUse_73 rfl (lv_at hl 3 rfl) ?_
          obtain ⟨g15, h⟩ := wk_gd_e h
          obtain ⟨M16, eM16, h⟩ := wk_mu_e h
          refine wk_iast (j := (M14 0 ch 0 6).toNatClampNeg) hx hb hK hP hI hS hA (wk_l0 hL hc 5 (by decide)) wk_c5 g15 rfl (by rfl) dX0_planUse_74 (fun H locs hP hS => ?_)
          rw [eM16] at hP
          refine lv_aload_n hx hb dX0_planUse_75 rfl (lv_at hl 0 rfl) ?_
          refine lv_dup hx hb dX0_planUse_76 rfl ?_
          refine wk_get (ref := "WokenRooms$Chip") (C := RX0) (T := TX0) (N := 8) (ci := 0) (v := .int (M16 0 ch 0 6)) hx hb hts (fun _ h => List.mem_cons_of_mem _ (List.mem_append_right _ h)) hown hK hP (wk_l0 hL hc 0 (by decide)) wk_c0 rfl 6 (by decide) q3 rfl rfl dX0_planUse_77 ?_
          refine lv_iconst (v := 1) hx hb dX0_planUse_80 (by decide) ?_
          refine lv_iadd hx hb dX0_planUse_81 ?_
          obtain ⟨M17, eM17, h⟩ := wk_mu_e h
          refine wk_put (ref := "WokenRooms$Chip") (C := RX0) (T := TX0) (N := 8) (ci := 0) hx hb hts (fun _ h => List.mem_cons_of_mem _ (List.mem_append_right _ h)) tyX0 tyX0_ok nmX0 hown hK hP hI hS hA (wk_l0 hL hc 0 (by decide)) wk_c0 rfl 6 (by decide) q3 rfl rfl (by decide +kernel) (Nat.le_of_ble_eq_true rfl) (by rfl) dX0_planUse_82 (fun H locs hP hS => ?_)
          rw [eM17] at hP
          refine lv_aload_n hx hb dX0_planUse_85 rfl (lv_at hl 0 rfl) ?_
          refine wk_get (ref := "WokenRooms$Chip") (C := RX0) (T := TX0) (N := 8) (ci := 0) (v := .int (M17 0 ch 0 6)) hx hb hts (fun _ h => List.mem_cons_of_mem _ (List.mem_append_right _ h)) hown hK hP (wk_l0 hL hc 0 (by decide)) wk_c0 rfl 6 (by decide) q3 rfl rfl dX0_planUse_86 ?_
          exact RT _ _ _ _ _ _ h hP hS dX0_planUse_89
        · have h := wk_n g10 h
          refine lv_bipush (v := (-3)) hx hb dX0_planUse_42 (by decide) ?_
          exact RT _ _ _ _ _ _ h hP hS dX0_planUse_44
      · have h := wk_n g9 h
        refine lv_iconst (v := (-1)) hx hb dX0_planUse_31 (by decide) ?_
        exact RT _ _ _ _ _ _ h hP hS dX0_planUse_32
set_option maxRecDepth 100000 in
set_option maxHeartbeats 4000000 in
theorem m_X0_planUse (l : Launch) {D : va_G} {y : Nat → ClassId} {B : Nat → Nat → Nat → Nat} {Lk : Nat → Nat → Nat → Prop} (hI : wk_I B Lk) (hL : wk_L Lk) {ch : Nat} (hc : ch < 7) {v1 : Int32} {v2 : Int32} {v3 : Int32} {M : wk_T} {r0 : Int32} {MM : wk_T} (hf : f_X0_planUse ch v1 v2 v3 M = some (r0, MM)) : wk_Mi l yX0_planUse wsX0_planUse 1 22 D y B Lk [.ref (B 0 ch 0), .int v1, .int v2, .int v3] M r0 MM :=
  wk_ofI (own := RX0) (bytes := cX0_planUse) (maxL := 4) (ret := some .int) (by decide +kernel) rfl rfl (Or.inl rfl) (Nat.le_of_ble_eq_true rfl) hI hL (fun p e s m args below meth c ls CX RTi RTz hl hP hS => w_X0_planUse_0 CX (RTi rfl) hc hf hl hP hS)
def f_X0_removeUse_2 (ch : Nat) : Nat → Int32 → wk_T → Option (Unit × wk_T)
  | 0, _, _ => none
  | n + 1, v2, M => (if (M 0 ch 0 6) ≤ (v2 + 1) then wk_mu (wk_up M 0 ch 0 6 ((M 0 ch 0 6) - 1)) (fun M2 => (some ((), M2))) else wk_gd (¬ ((v2 + 1) < 0 ∨ 12 ≤ (v2 + 1).toNatClampNeg)) (wk_gd (¬ (v2 < 0 ∨ 12 ≤ v2.toNatClampNeg)) (wk_mu (wk_up M 3 ch 0 (v2.toNatClampNeg) (M 3 ch 0 ((v2 + 1).toNatClampNeg))) (fun M5 => wk_gd (¬ ((v2 + 1) < 0 ∨ 12 ≤ (v2 + 1).toNatClampNeg)) (wk_gd (¬ (v2 < 0 ∨ 12 ≤ v2.toNatClampNeg)) (wk_mu (wk_up M5 4 ch 0 (v2.toNatClampNeg) (M5 4 ch 0 ((v2 + 1).toNatClampNeg))) (fun M8 => wk_gd (¬ ((v2 + 1) < 0 ∨ 12 ≤ (v2 + 1).toNatClampNeg)) (wk_gd (¬ (v2 < 0 ∨ 12 ≤ v2.toNatClampNeg)) (wk_mu (wk_up M8 5 ch 0 (v2.toNatClampNeg) (M8 5 ch 0 ((v2 + 1).toNatClampNeg))) (fun M11 => wk_lt (v2 + 1) (fun x12 => (f_X0_removeUse_2 ch n x12 M11))))))))))))
def f_X0_removeUse (ch : Nat) (v1 : Int32) (M : wk_T) : Option (Unit × wk_T) := (f_X0_removeUse_2 ch wk_fuel v1 M)
set_option maxRecDepth 20000 in
theorem q_X0_removeUse {s : State} {args : Array Value} (hts : ∀ w ∈ wsX0_removeUse, w.before args s = true) : (Cond.fieldLink RX0 45 "WokenRooms$Chip" "useCount" "I").before args s = true ∧ (Cond.fieldLink RX0 21 "WokenRooms$Chip" "useRooms" "[I").before args s = true ∧ (Cond.fieldLink RX0 24 "WokenRooms$Chip" "useTimes" "[I").before args s = true ∧ (Cond.fieldLink RX0 27 "WokenRooms$Chip" "useLengths" "[I").before args s = true := ⟨hts _ (List.mem_of_getElem? (i := 1) rfl), hts _ (List.mem_of_getElem? (i := 2) rfl), hts _ (List.mem_of_getElem? (i := 3) rfl), hts _ (List.mem_of_getElem? (i := 4) rfl)⟩
set_option maxRecDepth 100000 in
set_option maxHeartbeats 4000000 in
theorem w_X0_removeUse_2 {ch : Nat} (CX : wk_X p l e R s m args below meth c cells slots Q cX0_removeUse 3 RX0 wsX0_removeUse D y B Lk A 0 0) (RT : wk_Rv p l e R s m args below meth c cells slots Q cX0_removeUse D y B Lk A MM) (hc : ch < 7) : ∀ (n : Nat) (v2 : Int32) (M : wk_T) (H : Heap) (locs : List Loc) (ls : Array Slot), f_X0_removeUse_2 ch n v2 M = some ((), MM) → lv_has ls 3 [(0, .ref (B 0 ch 0)), (2, .int v2)] → wk_H D y B Lk M H → va_S A s.heap H locs → W p l e R s m args below meth c H locs cells slots Q (F0 m 2 ls []) := by
  obtain ⟨⟨hx, hb, hml, hown, hts⟩, hK, hI, hL, hA, hfr, hlo, hcs⟩ := id CX
  obtain ⟨q1, q2, q3, q4⟩ := q_X0_removeUse hts
  intro n
  induction n with
  | zero =>
    intro v2 M H locs ls h
    exact absurd h (by rw [f_X0_removeUse_2]; exact fun z => nomatch z)
  | succ n ih =>
    intro v2 M H locs ls h hl hP hS
    rw [f_X0_removeUse_2] at h
    refine lv_iload_n hx hb dX0_removeUse_2 rfl (lv_at hl 1 rfl) ?_
    refine lv_iconst (v := 1) hx hb dX0_removeUse_3 (by decide) ?_
    refine lv_iadd hx hb dX0_removeUse_4 ?_
    refine lv_aload_n hx hb dX0_removeUse_5 rfl (lv_at hl 0 rfl) ?_
    refine wk_get (ref := "WokenRooms$Chip") (C := RX0) (T := TX0) (N := 8) (ci := 0) (v := .int (M 0 ch 0 6)) hx hb hts (fun _ h => List.mem_cons_of_mem _ (List.mem_append_right _ h)) hown hK hP (wk_l0 hL hc 0 (by decide)) wk_c0 rfl 6 (by decide) q1 rfl rfl dX0_removeUse_6 ?_
    refine lv_icmp_ge (tgt := 60) hx hb dX0_removeUse_9 (by decide) (fun g1 => ?_) (fun g1 => ?_)
    · have h := wk_p g1 h
      refine lv_aload_n hx hb dX0_removeUse_60 rfl (lv_at hl 0 rfl) ?_
      refine lv_dup hx hb dX0_removeUse_61 rfl ?_
      refine wk_get (ref := "WokenRooms$Chip") (C := RX0) (T := TX0) (N := 8) (ci := 0) (v := .int (M 0 ch 0 6)) hx hb hts (fun _ h => List.mem_cons_of_mem _ (List.mem_append_right _ h)) hown hK hP (wk_l0 hL hc 0 (by decide)) wk_c0 rfl 6 (by decide) q1 rfl rfl dX0_removeUse_62 ?_
      refine lv_iconst (v := 1) hx hb dX0_removeUse_65 (by decide) ?_
      refine lv_isub hx hb dX0_removeUse_66 ?_
      obtain ⟨M2, eM2, h⟩ := wk_mu_e h
      refine wk_put (ref := "WokenRooms$Chip") (C := RX0) (T := TX0) (N := 8) (ci := 0) hx hb hts (fun _ h => List.mem_cons_of_mem _ (List.mem_append_right _ h)) tyX0 tyX0_ok nmX0 hown hK hP hI hS hA (wk_l0 hL hc 0 (by decide)) wk_c0 rfl 6 (by decide) q1 rfl rfl (by decide +kernel) (Nat.le_of_ble_eq_true rfl) (by rfl) dX0_removeUse_67 (fun H locs hP hS => ?_)
      rw [eM2] at hP
      exact RT _ _ _ _ _ h hP hS dX0_removeUse_70
    · have h := wk_n g1 h
      refine lv_aload_n hx hb dX0_removeUse_12 rfl (lv_at hl 0 rfl) ?_
      refine wk_get (ref := "WokenRooms$Chip") (C := RX0) (T := TX0) (N := 8) (ci := 0) (v := .ref (B 3 ch 0)) hx hb hts (fun _ h => List.mem_cons_of_mem _ (List.mem_append_right _ h)) hown hK hP (wk_l0 hL hc 0 (by decide)) wk_c0 rfl 3 (by decide) q2 rfl rfl dX0_removeUse_13 ?_
      refine lv_iload_n hx hb dX0_removeUse_16 rfl (lv_at hl 1 rfl) ?_
      refine lv_aload_n hx hb dX0_removeUse_17 rfl (lv_at hl 0 rfl) ?_
      refine wk_get (ref := "WokenRooms$Chip") (C := RX0) (T := TX0) (N := 8) (ci := 0) (v := .ref (B 3 ch 0)) hx hb hts (fun _ h => List.mem_cons_of_mem _ (List.mem_append_right _ h)) hown hK hP (wk_l0 hL hc 0 (by decide)) wk_c0 rfl 3 (by decide) q2 rfl rfl dX0_removeUse_18 ?_
      refine lv_iload_n hx hb dX0_removeUse_21 rfl (lv_at hl 1 rfl) ?_
      refine lv_iconst (v := 1) hx hb dX0_removeUse_22 (by decide) ?_
      refine lv_iadd hx hb dX0_removeUse_23 ?_
      obtain ⟨g3, h⟩ := wk_gd_e h
      refine wk_iald (j := (v2 + 1).toNatClampNeg) hx hb hK hP (wk_l0 hL hc 3 (by decide)) wk_c3 g3 rfl dX0_removeUse_24 ?_
      obtain ⟨g4, h⟩ := wk_gd_e h
      obtain ⟨M5, eM5, h⟩ := wk_mu_e h
      refine wk_iast (j := v2.toNatClampNeg) hx hb hK hP hI hS hA (wk_l0 hL hc 3 (by decide)) wk_c3 g4 rfl (by rfl) dX0_removeUse_25 (fun H locs hP hS => ?_)
      rw [eM5] at hP
      refine lv_aload_n hx hb dX0_removeUse_26 rfl (lv_at hl 0 rfl) ?_
      refine wk_get (ref := "WokenRooms$Chip") (C := RX0) (T := TX0) (N := 8) (ci := 0) (v := .ref (B 4 ch 0)) hx hb hts (fun _ h => List.mem_cons_of_mem _ (List.mem_append_right _ h)) hown hK hP (wk_l0 hL hc 0 (by decide)) wk_c0 rfl 4 (by decide) q3 rfl rfl dX0_removeUse_27 ?_
      refine lv_iload_n hx hb dX0_removeUse_30 rfl (lv_at hl 1 rfl) ?_
      refine lv_aload_n hx hb dX0_removeUse_31 rfl (lv_at hl 0 rfl) ?_
      refine wk_get (ref := "WokenRooms$Chip") (C := RX0) (T := TX0) (N := 8) (ci := 0) (v := .ref (B 4 ch 0)) hx hb hts (fun _ h => List.mem_cons_of_mem _ (List.mem_append_right _ h)) hown hK hP (wk_l0 hL hc 0 (by decide)) wk_c0 rfl 4 (by decide) q3 rfl rfl dX0_removeUse_32 ?_
      refine lv_iload_n hx hb dX0_removeUse_35 rfl (lv_at hl 1 rfl) ?_
      refine lv_iconst (v := 1) hx hb dX0_removeUse_36 (by decide) ?_
      refine lv_iadd hx hb dX0_removeUse_37 ?_
      obtain ⟨g6, h⟩ := wk_gd_e h
      refine wk_iald (j := (v2 + 1).toNatClampNeg) hx hb hK hP (wk_l0 hL hc 4 (by decide)) wk_c4 g6 rfl dX0_removeUse_38 ?_
      obtain ⟨g7, h⟩ := wk_gd_e h
      obtain ⟨M8, eM8, h⟩ := wk_mu_e h
      refine wk_iast (j := v2.toNatClampNeg) hx hb hK hP hI hS hA (wk_l0 hL hc 4 (by decide)) wk_c4 g7 rfl (by rfl) dX0_removeUse_39 (fun H locs hP hS => ?_)
      rw [eM8] at hP
      refine lv_aload_n hx hb dX0_removeUse_40 rfl (lv_at hl 0 rfl) ?_
      refine wk_get (ref := "WokenRooms$Chip") (C := RX0) (T := TX0) (N := 8) (ci := 0) (v := .ref (B 5 ch 0)) hx hb hts (fun _ h => List.mem_cons_of_mem _ (List.mem_append_right _ h)) hown hK hP (wk_l0 hL hc 0 (by decide)) wk_c0 rfl 5 (by decide) q4 rfl rfl dX0_removeUse_41 ?_
      refine lv_iload_n hx hb dX0_removeUse_44 rfl (lv_at hl 1 rfl) ?_
      refine lv_aload_n hx hb dX0_removeUse_45 rfl (lv_at hl 0 rfl) ?_
      refine wk_get (ref := "WokenRooms$Chip") (C := RX0) (T := TX0) (N := 8) (ci := 0) (v := .ref (B 5 ch 0)) hx hb hts (fun _ h => List.mem_cons_of_mem _ (List.mem_append_right _ h)) hown hK hP (wk_l0 hL hc 0 (by decide)) wk_c0 rfl 5 (by decide) q4 rfl rfl dX0_removeUse_46 ?_
      refine lv_iload_n hx hb dX0_removeUse_49 rfl (lv_at hl 1 rfl) ?_
      refine lv_iconst (v := 1) hx hb dX0_removeUse_50 (by decide) ?_
      refine lv_iadd hx hb dX0_removeUse_51 ?_
      obtain ⟨g9, h⟩ := wk_gd_e h
      refine wk_iald (j := (v2 + 1).toNatClampNeg) hx hb hK hP (wk_l0 hL hc 5 (by decide)) wk_c5 g9 rfl dX0_removeUse_52 ?_
      obtain ⟨g10, h⟩ := wk_gd_e h
      obtain ⟨M11, eM11, h⟩ := wk_mu_e h
      refine wk_iast (j := v2.toNatClampNeg) hx hb hK hP hI hS hA (wk_l0 hL hc 5 (by decide)) wk_c5 g10 rfl (by rfl) dX0_removeUse_53 (fun H locs hP hS => ?_)
      rw [eM11] at hP
      obtain ⟨x12, ex12, h⟩ := wk_lt_e h
      refine lv_iinc (v := x12) (lv' := [(2, .int x12), (0, .ref (B 0 ch 0))]) hx hb dX0_removeUse_54 hl (k := 1) rfl (by rw [← ex12]; rfl) (by decide) rfl (fun ls hl => ?_)
      refine lv_goto (tgt := 2) hx hb dX0_removeUse_57 (by decide) ?_
      exact ih _ _ _ _ _ h (lv_sub hl [1, 0] rfl) hP hS
set_option maxRecDepth 100000 in
set_option maxHeartbeats 4000000 in
theorem w_X0_removeUse_0 {ch : Nat} (CX : wk_X p l e R s m args below meth c cells slots Q cX0_removeUse 3 RX0 wsX0_removeUse D y B Lk A 0 0) (RT : wk_Rv p l e R s m args below meth c cells slots Q cX0_removeUse D y B Lk A MM) (hc : ch < 7) {v1 : Int32} {M : wk_T} {H : Heap} {locs : List Loc} {ls : Array Slot} (h : f_X0_removeUse ch v1 M = some ((), MM)) (hl : lv_has ls 3 [(0, .ref (B 0 ch 0)), (1, .int v1)]) (hP : wk_H D y B Lk M H) (hS : va_S A s.heap H locs) : W p l e R s m args below meth c H locs cells slots Q (F0 m 0 ls []) := by
  obtain ⟨⟨hx, hb, hml, hown, hts⟩, hK, hI, hL, hA, hfr, hlo, hcs⟩ := id CX
  obtain ⟨q1, q2, q3, q4⟩ := q_X0_removeUse hts
  unfold f_X0_removeUse at h
  refine lv_iload_n hx hb dX0_removeUse_0 rfl (lv_at hl 1 rfl) ?_
  refine lv_istore_n (lv' := [(2, .int v1), (0, .ref (B 0 ch 0)), (1, .int v1)]) hx hb dX0_removeUse_1 rfl hl (by decide) rfl (fun ls hl => ?_)
  exact w_X0_removeUse_2 CX RT hc wk_fuel _ _ _ _ _ h (lv_sub hl [1, 0] rfl) hP hS
set_option maxRecDepth 100000 in
set_option maxHeartbeats 4000000 in
theorem m_X0_removeUse (l : Launch) {D : va_G} {y : Nat → ClassId} {B : Nat → Nat → Nat → Nat} {Lk : Nat → Nat → Nat → Prop} (hI : wk_I B Lk) (hL : wk_L Lk) {ch : Nat} (hc : ch < 7) {v1 : Int32} {M : wk_T} {MM : wk_T} (hf : f_X0_removeUse ch v1 M = some ((), MM)) : wk_Mv l yX0_removeUse wsX0_removeUse 0 0 D y B Lk [.ref (B 0 ch 0), .int v1] M MM :=
  wk_ofV (own := RX0) (bytes := cX0_removeUse) (maxL := 3) (by decide +kernel) rfl rfl (Nat.le_of_ble_eq_true rfl) hI hL (fun p e s m args below meth c ls CX RT hl hP hS => w_X0_removeUse_0 CX RT hc hf hl hP hS)
def f_X0_dropUse (ch : Nat) (v1 : Int32) (M : wk_T) : Option (Int32 × wk_T) := wk_cl (f_X0_hasUse ch v1 M) (fun r1 M2 => (if r1 = 0 then (some ((-1), M2)) else wk_gd (¬ (v1 < 0 ∨ 12 ≤ v1.toNatClampNeg)) (wk_lt ((M2 3 ch 0 (v1.toNatClampNeg))) (fun x5 => wk_cl (f_X0_removeUse ch v1 M2) (fun _ M7 => (some (x5, M7)))))))
set_option maxRecDepth 20000 in
theorem q_X0_dropUse {s : State} {args : Array Value} (hts : ∀ w ∈ wsX0_dropUse, w.before args s = true) : (Cond.fieldLink RX0 21 "WokenRooms$Chip" "useRooms" "[I").before args s = true := hts _ (List.mem_of_getElem? (i := 1) rfl)
set_option maxRecDepth 100000 in
set_option maxHeartbeats 4000000 in
theorem w_X0_dropUse_0 {ch : Nat} {r0 : Int32} (CX : wk_X p l e R s m args below meth c cells slots Q cX0_dropUse 3 RX0 wsX0_dropUse D y B Lk A 1 22) (RT : wk_Ri p l e R s m args below meth c cells slots Q cX0_dropUse D y B Lk A r0 MM) (hc : ch < 7) {v1 : Int32} {M : wk_T} {H : Heap} {locs : List Loc} {ls : Array Slot} (h : f_X0_dropUse ch v1 M = some (r0, MM)) (hl : lv_has ls 3 [(0, .ref (B 0 ch 0)), (1, .int v1)]) (hP : wk_H D y B Lk M H) (hS : va_S A s.heap H locs) : W p l e R s m args below meth c H locs cells slots Q (F0 m 0 ls []) := by
  obtain ⟨⟨hx, hb, hml, hown, hts⟩, hK, hI, hL, hA, hfr, hlo, hcs⟩ := id CX
  have q1 := q_X0_dropUse hts
  unfold f_X0_dropUse at h
  refine lv_aload_n hx hb dX0_dropUse_0 rfl (lv_at hl 0 rfl) ?_
  refine lv_iload_n hx hb dX0_dropUse_1 rfl (lv_at hl 1 rfl) ?_
  obtain ⟨r1, M2, er1, h⟩ := wk_cl_e h
  refine wk_cVi (As := [.int v1]) (rest := []) ⟨hx, hb, hml, hown, hts⟩ (m_X0_hasUse l hI hL hc er1) (cwV 1 hts gX0_dropUse_X0_hasUse rfl rfl rfl (by decide +kernel) ⟨Nat.le_trans (by decide) hfr, Nat.le_trans (by decide) hlo⟩) hK hP hS hA (wk_l0 hL hc 0 (by decide)) wk_c0 rfl rfl hl.1 (lv_room (Nat.le_of_ble_eq_true rfl)) hcs dX0_dropUse_2 (fun H locs hP hS => ?_)
  refine lv_if_ne (tgt := 10) hx hb dX0_dropUse_5 (by decide) (fun g3 => ?_) (fun g3 => ?_)
  · have h := wk_n g3 h
    refine lv_aload_n hx hb dX0_dropUse_10 rfl (lv_at hl 0 rfl) ?_
    refine wk_get (ref := "WokenRooms$Chip") (C := RX0) (T := TX0) (N := 8) (ci := 0) (v := .ref (B 3 ch 0)) hx hb hts (fun _ h => List.mem_cons_of_mem _ (List.mem_append_right _ h)) hown hK hP (wk_l0 hL hc 0 (by decide)) wk_c0 rfl 3 (by decide) q1 rfl rfl dX0_dropUse_11 ?_
    refine lv_iload_n hx hb dX0_dropUse_14 rfl (lv_at hl 1 rfl) ?_
    obtain ⟨g4, h⟩ := wk_gd_e h
    refine wk_iald (j := v1.toNatClampNeg) hx hb hK hP (wk_l0 hL hc 3 (by decide)) wk_c3 g4 rfl dX0_dropUse_15 ?_
    obtain ⟨x5, ex5, h⟩ := wk_lt_e h
    refine wk_topi ex5 ?_
    refine lv_istore_n (lv' := [(2, .int x5), (0, .ref (B 0 ch 0)), (1, .int v1)]) hx hb dX0_dropUse_16 rfl hl (by decide) rfl (fun ls hl => ?_)
    refine lv_aload_n hx hb dX0_dropUse_17 rfl (lv_at hl 1 rfl) ?_
    refine lv_iload_n hx hb dX0_dropUse_18 rfl (lv_at hl 2 rfl) ?_
    obtain ⟨r6, M7, er6, h⟩ := wk_cl_e h
    refine wk_cVv (As := [.int v1]) (rest := []) ⟨hx, hb, hml, hown, hts⟩ (m_X0_removeUse l hI hL hc er6) (cwV 1 hts gX0_dropUse_X0_removeUse rfl rfl rfl (by decide +kernel) ⟨Nat.le_trans (by decide) hfr, Nat.le_trans (by decide) hlo⟩) hK hP hS hA (wk_l0 hL hc 0 (by decide)) wk_c0 rfl rfl hl.1 (lv_room (Nat.le_of_ble_eq_true rfl)) hcs dX0_dropUse_19 (fun H locs hP hS => ?_)
    refine lv_iload_n hx hb dX0_dropUse_22 rfl (lv_at hl 0 rfl) ?_
    exact RT _ _ _ _ _ _ h hP hS dX0_dropUse_23
  · have h := wk_p g3 h
    refine lv_iconst (v := (-1)) hx hb dX0_dropUse_8 (by decide) ?_
    exact RT _ _ _ _ _ _ h hP hS dX0_dropUse_9
set_option maxRecDepth 100000 in
set_option maxHeartbeats 4000000 in
theorem m_X0_dropUse (l : Launch) {D : va_G} {y : Nat → ClassId} {B : Nat → Nat → Nat → Nat} {Lk : Nat → Nat → Nat → Prop} (hI : wk_I B Lk) (hL : wk_L Lk) {ch : Nat} (hc : ch < 7) {v1 : Int32} {M : wk_T} {r0 : Int32} {MM : wk_T} (hf : f_X0_dropUse ch v1 M = some (r0, MM)) : wk_Mi l yX0_dropUse wsX0_dropUse 1 22 D y B Lk [.ref (B 0 ch 0), .int v1] M r0 MM :=
  wk_ofI (own := RX0) (bytes := cX0_dropUse) (maxL := 3) (ret := some .int) (by decide +kernel) rfl rfl (Or.inl rfl) (Nat.le_of_ble_eq_true rfl) hI hL (fun p e s m args below meth c ls CX RTi RTz hl hP hS => w_X0_dropUse_0 CX (RTi rfl) hc hf hl hP hS)
end WP13
