/-! walks by program: X3_note, X3_dropOldest, X3_kept, X3_room, X3_need, X3_plug, X3_unplug, X3_limit, X3_policy, X3_roomOf, X3_costOf, X3_pluggedAt, X3_use, X3_useOf, X3_drop, X3_wake, X3_sleep, X3_tick, X3_energy, X3_count -/
section WP15
variable {p : Program} {l : Launch} {e : Env} {R : Room} {s : State} {m : MethodId} {args : Array Value} {below : List Frame} {meth : Method} {c : Code} {cells slots : Nat} {Q : State → Prop}
variable {D : va_G} {y : Nat → ClassId} {B : Nat → Nat → Nat → Nat} {Lk : Nat → Nat → Nat → Prop} {A : Nat → Prop} {MM : wk_T}
def f_X3_note (M : wk_T) : Option (Unit × wk_T) := (if 5 ≤ (M 9 0 0 3) then (some ((), M)) else wk_gd (¬ ((M 9 0 0 3) < 0 ∨ 5 ≤ (M 9 0 0 3).toNatClampNeg)) (wk_ln (M 10 0 0 ((M 9 0 0 3).toNatClampNeg)).toNatClampNeg (fun n3 => wk_gd (n3 < 7) (wk_cl (f_X0_copyFrom n3 0 M) (fun _ M6 => (some ((), M6)))))))
set_option maxRecDepth 20000 in
theorem q_X3_note {s : State} {args : Array Value} (hts : ∀ w ∈ wsX3_note, w.before args s = true) : (Cond.fieldLink RX3 143 "WokenRooms" "historySize" "I").before args s = true ∧ (Cond.fieldLink RX3 19 "WokenRooms" "history" "[LWokenRooms$Chip;").before args s = true ∧ (Cond.fieldLink RX3 10 "WokenRooms" "chip" "LWokenRooms$Chip;").before args s = true := ⟨hts _ (List.mem_of_getElem? (i := 1) rfl), hts _ (List.mem_of_getElem? (i := 2) rfl), hts _ (List.mem_of_getElem? (i := 3) rfl)⟩
set_option maxRecDepth 100000 in
set_option maxHeartbeats 4000000 in
theorem w_X3_note_0 (CX : wk_X p l e R s m args below meth c cells slots Q cX3_note 1 RX3 wsX3_note D y B Lk A 3 83) (RT : wk_Rv p l e R s m args below meth c cells slots Q cX3_note D y B Lk A MM) {M : wk_T} {H : Heap} {locs : List Loc} {ls : Array Slot} (h : f_X3_note M = some ((), MM)) (hl : lv_has ls 1 [(0, .ref (B 9 0 0))]) (hP : wk_H D y B Lk M H) (hS : va_S A s.heap H locs) : W p l e R s m args below meth c H locs cells slots Q (F0 m 0 ls []) := by
  obtain ⟨⟨hx, hb, hml, hown, hts⟩, hK, hI, hL, hA, hfr, hlo, hcs⟩ := id CX
  obtain ⟨q1, q2, q3⟩ := q_X3_note hts
  unfold f_X3_note at h
  refine lv_aload_n hx hb dX3_note_0 rfl (lv_at hl 0 rfl) ?_
  refine wk_get (ref := "WokenRooms") (C := RX3) (T := TX3) (N := 5) (ci := 3) (v := .int (M 9 0 0 3)) hx hb hts (fun _ h => List.mem_cons_of_mem _ (List.mem_append_left _ (List.mem_append_left _ (List.mem_append_right _ h)))) hown hK hP (wk_l9 hL 9 (by decide) (by decide)) wk_c9 rfl 3 (by decide) q1 rfl rfl dX3_note_1 ?_
  refine lv_aload_n hx hb dX3_note_4 rfl (lv_at hl 0 rfl) ?_
  refine wk_get (ref := "WokenRooms") (C := RX3) (T := TX3) (N := 5) (ci := 3) (v := .ref (B 10 0 0)) hx hb hts (fun _ h => List.mem_cons_of_mem _ (List.mem_append_left _ (List.mem_append_left _ (List.mem_append_right _ h)))) hown hK hP (wk_l9 hL 9 (by decide) (by decide)) wk_c9 rfl 2 (by decide) q2 rfl rfl dX3_note_5 ?_
  refine wk_alen (t0 := 2) (v := 5) hx hb hK hP (wk_l9 hL 10 (by decide) (by decide)) wk_c10 rfl (by rfl) dX3_note_8 ?_
  refine lv_icmp_ge (tgt := 28) hx hb dX3_note_9 (by decide) (fun g1 => ?_) (fun g1 => ?_)
  · have h := wk_p g1 h
    exact RT _ _ _ _ _ h hP hS dX3_note_28
  · have h := wk_n g1 h
    refine lv_aload_n hx hb dX3_note_12 rfl (lv_at hl 0 rfl) ?_
    refine wk_get (ref := "WokenRooms") (C := RX3) (T := TX3) (N := 5) (ci := 3) (v := .ref (B 10 0 0)) hx hb hts (fun _ h => List.mem_cons_of_mem _ (List.mem_append_left _ (List.mem_append_left _ (List.mem_append_right _ h)))) hown hK hP (wk_l9 hL 9 (by decide) (by decide)) wk_c9 rfl 2 (by decide) q2 rfl rfl dX3_note_13 ?_
    refine lv_aload_n hx hb dX3_note_16 rfl (lv_at hl 0 rfl) ?_
    refine wk_get (ref := "WokenRooms") (C := RX3) (T := TX3) (N := 5) (ci := 3) (v := .int (M 9 0 0 3)) hx hb hts (fun _ h => List.mem_cons_of_mem _ (List.mem_append_left _ (List.mem_append_left _ (List.mem_append_right _ h)))) hown hK hP (wk_l9 hL 9 (by decide) (by decide)) wk_c9 rfl 3 (by decide) q1 rfl rfl dX3_note_17 ?_
    obtain ⟨g2, h⟩ := wk_gd_e h
    obtain ⟨n3, en3, h⟩ := wk_ln_e h
    obtain ⟨g4, h⟩ := wk_gd_e h
    refine wk_aaldH (j := (M 9 0 0 3).toNatClampNeg) hx hb hK hP (wk_l9 hL 10 (by decide) (by decide)) g2 rfl en3 dX3_note_20 ?_
    refine lv_aload_n hx hb dX3_note_21 rfl (lv_at hl 0 rfl) ?_
    refine wk_get (ref := "WokenRooms") (C := RX3) (T := TX3) (N := 5) (ci := 3) (v := .ref (B 0 0 0)) hx hb hts (fun _ h => List.mem_cons_of_mem _ (List.mem_append_left _ (List.mem_append_left _ (List.mem_append_right _ h)))) hown hK hP (wk_l9 hL 9 (by decide) (by decide)) wk_c9 rfl 0 (by decide) q3 rfl rfl dX3_note_22 ?_
    obtain ⟨r5, M6, er5, h⟩ := wk_cl_e h
    refine wk_cVv (As := [.ref (B 0 0 0)]) (rest := []) ⟨hx, hb, hml, hown, hts⟩ (m_X0_copyFrom l hI hL g4 (by decide) er5) (cwV 1 hts gX3_note_X0_copyFrom rfl rfl rfl (by decide +kernel) ⟨Nat.le_trans (by decide) hfr, Nat.le_trans (by decide) hlo⟩) hK hP hS hA (wk_l0 hL g4 0 (by decide)) wk_c0 rfl rfl hl.1 (lv_room (Nat.le_of_ble_eq_true rfl)) hcs dX3_note_25 (fun H locs hP hS => ?_)
    exact RT _ _ _ _ _ h hP hS dX3_note_28
set_option maxRecDepth 100000 in
set_option maxHeartbeats 4000000 in
theorem m_X3_note (l : Launch) {D : va_G} {y : Nat → ClassId} {B : Nat → Nat → Nat → Nat} {Lk : Nat → Nat → Nat → Prop} (hI : wk_I B Lk) (hL : wk_L Lk) {M : wk_T} {MM : wk_T} (hf : f_X3_note M = some ((), MM)) : wk_Mv l yX3_note wsX3_note 3 83 D y B Lk [.ref (B 9 0 0)] M MM :=
  wk_ofV (own := RX3) (bytes := cX3_note) (maxL := 1) (by decide +kernel) rfl rfl (Nat.le_of_ble_eq_true rfl) hI hL (fun p e s m args below meth c ls CX RT hl hP hS => w_X3_note_0 CX RT hf hl hP hS)
def f_X3_dropOldest_9 : Nat → Nat → Int32 → wk_T → Option (Unit × wk_T)
  | 0, _, _, _ => none
  | n + 1, c1, v2, M => (if 4 ≤ v2 then wk_mu (wk_up M 10 0 0 4 (nI c1)) (fun M2 => wk_mu (wk_up M2 9 0 0 3 4) (fun M3 => (some ((), M3)))) else wk_gd (¬ ((v2 + 1) < 0 ∨ 5 ≤ (v2 + 1).toNatClampNeg)) (wk_ln (M 10 0 0 ((v2 + 1).toNatClampNeg)).toNatClampNeg (fun n5 => wk_gd (n5 < 7) (wk_gd (¬ (v2 < 0 ∨ 5 ≤ v2.toNatClampNeg)) (wk_mu (wk_up M 10 0 0 (v2.toNatClampNeg) (nI n5)) (fun M8 => wk_lt (v2 + 1) (fun x9 => (f_X3_dropOldest_9 n c1 x9 M8))))))))
def f_X3_dropOldest (M : wk_T) : Option (Unit × wk_T) := wk_ln (M 10 0 0 0).toNatClampNeg (fun n1 => wk_gd (n1 < 7) ((f_X3_dropOldest_9 wk_fuel n1 0 M)))
set_option maxRecDepth 20000 in
theorem q_X3_dropOldest {s : State} {args : Array Value} (hts : ∀ w ∈ wsX3_dropOldest, w.before args s = true) : (Cond.fieldLink RX3 19 "WokenRooms" "history" "[LWokenRooms$Chip;").before args s = true ∧ (Cond.fieldLink RX3 143 "WokenRooms" "historySize" "I").before args s = true := ⟨hts _ (List.mem_of_getElem? (i := 1) rfl), hts _ (List.mem_of_getElem? (i := 2) rfl)⟩
set_option maxRecDepth 100000 in
set_option maxHeartbeats 4000000 in
theorem w_X3_dropOldest_9 (CX : wk_X p l e R s m args below meth c cells slots Q cX3_dropOldest 3 RX3 wsX3_dropOldest D y B Lk A 0 0) (RT : wk_Rv p l e R s m args below meth c cells slots Q cX3_dropOldest D y B Lk A MM) : ∀ (n : Nat) (c1 : Nat) (v2 : Int32) (M : wk_T) (H : Heap) (locs : List Loc) (ls : Array Slot), c1 < 7 → f_X3_dropOldest_9 n c1 v2 M = some ((), MM) → lv_has ls 3 [(0, .ref (B 9 0 0)), (1, .ref (B 0 c1 0)), (2, .int v2)] → wk_H D y B Lk M H → va_S A s.heap H locs → W p l e R s m args below meth c H locs cells slots Q (F0 m 9 ls []) := by
  obtain ⟨⟨hx, hb, hml, hown, hts⟩, hK, hI, hL, hA, hfr, hlo, hcs⟩ := id CX
  obtain ⟨q1, q2⟩ := q_X3_dropOldest hts
  intro n
  induction n with
  | zero =>
    intro c1 v2 M H locs ls hc1 h
    exact absurd h (by rw [f_X3_dropOldest_9]; exact fun z => nomatch z)
  | succ n ih =>
    intro c1 v2 M H locs ls hc1 h hl hP hS
    rw [f_X3_dropOldest_9] at h
    refine lv_iload_n hx hb dX3_dropOldest_9 rfl (lv_at hl 2 rfl) ?_
    refine lv_iconst (v := 4) hx hb dX3_dropOldest_10 (by decide) ?_
    refine lv_icmp_ge (tgt := 34) hx hb dX3_dropOldest_11 (by decide) (fun g1 => ?_) (fun g1 => ?_)
    · have h := wk_p g1 h
      refine lv_aload_n hx hb dX3_dropOldest_34 rfl (lv_at hl 0 rfl) ?_
      refine wk_get (ref := "WokenRooms") (C := RX3) (T := TX3) (N := 5) (ci := 3) (v := .ref (B 10 0 0)) hx hb hts (fun _ h => List.mem_cons_of_mem _ (List.mem_append_right _ h)) hown hK hP (wk_l9 hL 9 (by decide) (by decide)) wk_c9 rfl 2 (by decide) q1 rfl rfl dX3_dropOldest_35 ?_
      refine lv_iconst (v := 4) hx hb dX3_dropOldest_38 (by decide) ?_
      refine lv_aload_n hx hb dX3_dropOldest_39 rfl (lv_at hl 1 rfl) ?_
      obtain ⟨M2, eM2, h⟩ := wk_mu_e h
      refine wk_aast (j := 4) hx hb hK hP hI hS hA (wk_l9 hL 10 (by decide) (by decide)) hc1 (wk_l0 hL hc1 0 (by decide)) (by decide) (by decide) dX3_dropOldest_40 (fun H locs hP hS => ?_)
      rw [eM2] at hP
      refine lv_aload_n hx hb dX3_dropOldest_41 rfl (lv_at hl 0 rfl) ?_
      refine lv_iconst (v := 4) hx hb dX3_dropOldest_42 (by decide) ?_
      obtain ⟨M3, eM3, h⟩ := wk_mu_e h
      refine wk_put (ref := "WokenRooms") (C := RX3) (T := TX3) (N := 5) (ci := 3) hx hb hts (fun _ h => List.mem_cons_of_mem _ (List.mem_append_right _ h)) tyX3 tyX3_ok nmX3 hown hK hP hI hS hA (wk_l9 hL 9 (by decide) (by decide)) wk_c9 rfl 3 (by decide) q2 rfl rfl (by decide +kernel) (Nat.le_of_ble_eq_true rfl) (by rfl) dX3_dropOldest_43 (fun H locs hP hS => ?_)
      rw [eM3] at hP
      exact RT _ _ _ _ _ h hP hS dX3_dropOldest_46
    · have h := wk_n g1 h
      refine lv_aload_n hx hb dX3_dropOldest_14 rfl (lv_at hl 0 rfl) ?_
      refine wk_get (ref := "WokenRooms") (C := RX3) (T := TX3) (N := 5) (ci := 3) (v := .ref (B 10 0 0)) hx hb hts (fun _ h => List.mem_cons_of_mem _ (List.mem_append_right _ h)) hown hK hP (wk_l9 hL 9 (by decide) (by decide)) wk_c9 rfl 2 (by decide) q1 rfl rfl dX3_dropOldest_15 ?_
      refine lv_iload_n hx hb dX3_dropOldest_18 rfl (lv_at hl 2 rfl) ?_
      refine lv_aload_n hx hb dX3_dropOldest_19 rfl (lv_at hl 0 rfl) ?_
      refine wk_get (ref := "WokenRooms") (C := RX3) (T := TX3) (N := 5) (ci := 3) (v := .ref (B 10 0 0)) hx hb hts (fun _ h => List.mem_cons_of_mem _ (List.mem_append_right _ h)) hown hK hP (wk_l9 hL 9 (by decide) (by decide)) wk_c9 rfl 2 (by decide) q1 rfl rfl dX3_dropOldest_20 ?_
      refine lv_iload_n hx hb dX3_dropOldest_23 rfl (lv_at hl 2 rfl) ?_
      refine lv_iconst (v := 1) hx hb dX3_dropOldest_24 (by decide) ?_
      refine lv_iadd hx hb dX3_dropOldest_25 ?_
      obtain ⟨g4, h⟩ := wk_gd_e h
      obtain ⟨n5, en5, h⟩ := wk_ln_e h
      obtain ⟨g6, h⟩ := wk_gd_e h
      refine wk_aaldH (j := (v2 + 1).toNatClampNeg) hx hb hK hP (wk_l9 hL 10 (by decide) (by decide)) g4 rfl en5 dX3_dropOldest_26 ?_
      obtain ⟨g7, h⟩ := wk_gd_e h
      obtain ⟨M8, eM8, h⟩ := wk_mu_e h
      refine wk_aast (j := v2.toNatClampNeg) hx hb hK hP hI hS hA (wk_l9 hL 10 (by decide) (by decide)) g6 (wk_l0 hL g6 0 (by decide)) g7 rfl dX3_dropOldest_27 (fun H locs hP hS => ?_)
      rw [eM8] at hP
      obtain ⟨x9, ex9, h⟩ := wk_lt_e h
      refine lv_iinc (v := x9) (lv' := [(2, .int x9), (0, .ref (B 9 0 0)), (1, .ref (B 0 c1 0))]) hx hb dX3_dropOldest_28 hl (k := 2) rfl (by rw [← ex9]; rfl) (by decide) rfl (fun ls hl => ?_)
      refine lv_goto (tgt := 9) hx hb dX3_dropOldest_31 (by decide) ?_
      exact ih _ _ _ _ _ _ hc1 h (lv_sub hl [1, 2, 0] rfl) hP hS
set_option maxRecDepth 100000 in
set_option maxHeartbeats 4000000 in
theorem w_X3_dropOldest_0 (CX : wk_X p l e R s m args below meth c cells slots Q cX3_dropOldest 3 RX3 wsX3_dropOldest D y B Lk A 0 0) (RT : wk_Rv p l e R s m args below meth c cells slots Q cX3_dropOldest D y B Lk A MM) {M : wk_T} {H : Heap} {locs : List Loc} {ls : Array Slot} (h : f_X3_dropOldest M = some ((), MM)) (hl : lv_has ls 3 [(0, .ref (B 9 0 0))]) (hP : wk_H D y B Lk M H) (hS : va_S A s.heap H locs) : W p l e R s m args below meth c H locs cells slots Q (F0 m 0 ls []) := by
  obtain ⟨⟨hx, hb, hml, hown, hts⟩, hK, hI, hL, hA, hfr, hlo, hcs⟩ := id CX
  obtain ⟨q1, q2⟩ := q_X3_dropOldest hts
  unfold f_X3_dropOldest at h
  refine lv_aload_n hx hb dX3_dropOldest_0 rfl (lv_at hl 0 rfl) ?_
  refine wk_get (ref := "WokenRooms") (C := RX3) (T := TX3) (N := 5) (ci := 3) (v := .ref (B 10 0 0)) hx hb hts (fun _ h => List.mem_cons_of_mem _ (List.mem_append_right _ h)) hown hK hP (wk_l9 hL 9 (by decide) (by decide)) wk_c9 rfl 2 (by decide) q1 rfl rfl dX3_dropOldest_1 ?_
  refine lv_iconst (v := 0) hx hb dX3_dropOldest_4 (by decide) ?_
  obtain ⟨n1, en1, h⟩ := wk_ln_e h
  obtain ⟨g2, h⟩ := wk_gd_e h
  refine wk_aaldH (j := 0) hx hb hK hP (wk_l9 hL 10 (by decide) (by decide)) (by decide) (by decide) en1 dX3_dropOldest_5 ?_
  refine lv_astore_n (lv' := [(1, .ref (B 0 n1 0)), (0, .ref (B 9 0 0))]) hx hb dX3_dropOldest_6 rfl hl (by decide) rfl (fun ls hl => ?_)
  refine lv_iconst (v := 0) hx hb dX3_dropOldest_7 (by decide) ?_
  refine lv_istore_n (lv' := [(2, .int 0), (1, .ref (B 0 n1 0)), (0, .ref (B 9 0 0))]) hx hb dX3_dropOldest_8 rfl hl (by decide) rfl (fun ls hl => ?_)
  exact w_X3_dropOldest_9 CX RT wk_fuel _ _ _ _ _ _ g2 h (lv_sub hl [2, 1, 0] rfl) hP hS
set_option maxRecDepth 100000 in
set_option maxHeartbeats 4000000 in
theorem m_X3_dropOldest (l : Launch) {D : va_G} {y : Nat → ClassId} {B : Nat → Nat → Nat → Nat} {Lk : Nat → Nat → Nat → Prop} (hI : wk_I B Lk) (hL : wk_L Lk) {M : wk_T} {MM : wk_T} (hf : f_X3_dropOldest M = some ((), MM)) : wk_Mv l yX3_dropOldest wsX3_dropOldest 0 0 D y B Lk [.ref (B 9 0 0)] M MM :=
  wk_ofV (own := RX3) (bytes := cX3_dropOldest) (maxL := 3) (by decide +kernel) rfl rfl (Nat.le_of_ble_eq_true rfl) hI hL (fun p e s m args below meth c ls CX RT hl hP hS => w_X3_dropOldest_0 CX RT hf hl hP hS)
def f_X3_kept (v1 : Int32) (M : wk_T) : Option (Int32 × wk_T) := (if 0 ≤ v1 then wk_mu (wk_up M 9 0 0 3 ((M 9 0 0 3) + 1)) (fun M2 => (if (M2 9 0 0 3) ≤ 4 then (some (v1, M2)) else wk_cl (f_X3_dropOldest M2) (fun _ M5 => (some (v1, M5))))) else (some (v1, M)))
set_option maxRecDepth 20000 in
theorem q_X3_kept {s : State} {args : Array Value} (hts : ∀ w ∈ wsX3_kept, w.before args s = true) : (Cond.fieldLink RX3 143 "WokenRooms" "historySize" "I").before args s = true := hts _ (List.mem_of_getElem? (i := 1) rfl)
set_option maxRecDepth 100000 in
set_option maxHeartbeats 4000000 in
theorem w_X3_kept_0 {r0 : Int32} (CX : wk_X p l e R s m args below meth c cells slots Q cX3_kept 2 RX3 wsX3_kept D y B Lk A 1 22) (RT : wk_Ri p l e R s m args below meth c cells slots Q cX3_kept D y B Lk A r0 MM) {v1 : Int32} {M : wk_T} {H : Heap} {locs : List Loc} {ls : Array Slot} (h : f_X3_kept v1 M = some (r0, MM)) (hl : lv_has ls 2 [(0, .ref (B 9 0 0)), (1, .int v1)]) (hP : wk_H D y B Lk M H) (hS : va_S A s.heap H locs) : W p l e R s m args below meth c H locs cells slots Q (F0 m 0 ls []) := by
  obtain ⟨⟨hx, hb, hml, hown, hts⟩, hK, hI, hL, hA, hfr, hlo, hcs⟩ := id CX
  have q1 := q_X3_kept hts
  unfold f_X3_kept at h
  refine lv_iload_n hx hb dX3_kept_0 rfl (lv_at hl 1 rfl) ?_
  refine lv_if_ge (tgt := 6) hx hb dX3_kept_1 (by decide) (fun g1 => ?_) (fun g1 => ?_)
  · have h := wk_p g1 h
    refine lv_aload_n hx hb dX3_kept_6 rfl (lv_at hl 0 rfl) ?_
    refine lv_dup hx hb dX3_kept_7 rfl ?_
    refine wk_get (ref := "WokenRooms") (C := RX3) (T := TX3) (N := 5) (ci := 3) (v := .int (M 9 0 0 3)) hx hb hts (fun _ h => List.mem_cons_of_mem _ (List.mem_append_right _ h)) hown hK hP (wk_l9 hL 9 (by decide) (by decide)) wk_c9 rfl 3 (by decide) q1 rfl rfl dX3_kept_8 ?_
    refine lv_iconst (v := 1) hx hb dX3_kept_11 (by decide) ?_
    refine lv_iadd hx hb dX3_kept_12 ?_
    obtain ⟨M2, eM2, h⟩ := wk_mu_e h
    refine wk_put (ref := "WokenRooms") (C := RX3) (T := TX3) (N := 5) (ci := 3) hx hb hts (fun _ h => List.mem_cons_of_mem _ (List.mem_append_right _ h)) tyX3 tyX3_ok nmX3 hown hK hP hI hS hA (wk_l9 hL 9 (by decide) (by decide)) wk_c9 rfl 3 (by decide) q1 rfl rfl (by decide +kernel) (Nat.le_of_ble_eq_true rfl) (by rfl) dX3_kept_13 (fun H locs hP hS => ?_)
    rw [eM2] at hP
    refine lv_aload_n hx hb dX3_kept_16 rfl (lv_at hl 0 rfl) ?_
    refine wk_get (ref := "WokenRooms") (C := RX3) (T := TX3) (N := 5) (ci := 3) (v := .int (M2 9 0 0 3)) hx hb hts (fun _ h => List.mem_cons_of_mem _ (List.mem_append_right _ h)) hown hK hP (wk_l9 hL 9 (by decide) (by decide)) wk_c9 rfl 3 (by decide) q1 rfl rfl dX3_kept_17 ?_
    refine lv_iconst (v := 4) hx hb dX3_kept_20 (by decide) ?_
    refine lv_icmp_le (tgt := 28) hx hb dX3_kept_21 (by decide) (fun g3 => ?_) (fun g3 => ?_)
    · have h := wk_p g3 h
      refine lv_iload_n hx hb dX3_kept_28 rfl (lv_at hl 1 rfl) ?_
      exact RT _ _ _ _ _ _ h hP hS dX3_kept_29
    · have h := wk_n g3 h
      refine lv_aload_n hx hb dX3_kept_24 rfl (lv_at hl 0 rfl) ?_
      obtain ⟨r4, M5, er4, h⟩ := wk_cl_e h
      refine wk_cVv (As := []) (rest := []) ⟨hx, hb, hml, hown, hts⟩ (m_X3_dropOldest l hI hL er4) (cwV 0 hts gX3_kept_X3_dropOldest rfl rfl rfl (by decide +kernel) ⟨Nat.le_trans (by decide) hfr, Nat.le_trans (by decide) hlo⟩) hK hP hS hA (wk_l9 hL 9 (by decide) (by decide)) wk_c9 rfl rfl hl.1 (lv_room (Nat.le_of_ble_eq_true rfl)) hcs dX3_kept_25 (fun H locs hP hS => ?_)
      refine lv_iload_n hx hb dX3_kept_28 rfl (lv_at hl 1 rfl) ?_
      exact RT _ _ _ _ _ _ h hP hS dX3_kept_29
  · have h := wk_n g1 h
    refine lv_iload_n hx hb dX3_kept_4 rfl (lv_at hl 1 rfl) ?_
    exact RT _ _ _ _ _ _ h hP hS dX3_kept_5
set_option maxRecDepth 100000 in
set_option maxHeartbeats 4000000 in
theorem m_X3_kept (l : Launch) {D : va_G} {y : Nat → ClassId} {B : Nat → Nat → Nat → Nat} {Lk : Nat → Nat → Nat → Prop} (hI : wk_I B Lk) (hL : wk_L Lk) {v1 : Int32} {M : wk_T} {r0 : Int32} {MM : wk_T} (hf : f_X3_kept v1 M = some (r0, MM)) : wk_Mi l yX3_kept wsX3_kept 1 22 D y B Lk [.ref (B 9 0 0), .int v1] M r0 MM :=
  wk_ofI (own := RX3) (bytes := cX3_kept) (maxL := 2) (ret := some .int) (by decide +kernel) rfl rfl (Or.inl rfl) (Nat.le_of_ble_eq_true rfl) hI hL (fun p e s m args below meth c ls CX RTi RTz hl hP hS => w_X3_kept_0 CX (RTi rfl) hf hl hP hS)
def f_X3_room (v1 : Int32) (v2 : Int32) (v3 : Int32) (v4 : Int32) (v5 : Int32) (v6 : Int32) (M : wk_T) : Option (Int32 × wk_T) := wk_cl (f_X3_outside v1 0 1 M) (fun r1 M2 => (if r1 = 0 then wk_cl (f_X3_outside v2 0 500 M2) (fun r4 M5 => (if r4 = 0 then wk_cl (f_X3_outside v3 1 20 M5) (fun r7 M8 => (if r7 = 0 then wk_cl (f_X3_outside v4 1 50 M8) (fun r10 M11 => (if r10 = 0 then wk_cl (f_X3_outside v5 0 50 M11) (fun r13 M14 => (if r13 = 0 then wk_cl (f_X3_outside v6 0 20 M14) (fun r16 M17 => (if r16 = 0 then (if (M17 0 0 0 1) < 8 then wk_cl (f_X3_note M17) (fun _ M21 => wk_gd (¬ ((M21 0 0 0 1) < 0 ∨ 8 ≤ (M21 0 0 0 1).toNatClampNeg)) (wk_cl (f_X2_startAnew 0 ((M21 0 0 0 1).toNatClampNeg) v1 M21) (fun _ M24 => wk_mu (wk_up M24 7 0 ((M21 0 0 0 1).toNatClampNeg) 0 v2) (fun M25 => wk_mu (wk_up M25 7 0 ((M21 0 0 0 1).toNatClampNeg) 1 v3) (fun M26 => wk_mu (wk_up M26 7 0 ((M21 0 0 0 1).toNatClampNeg) 2 v4) (fun M27 => wk_mu (wk_up M27 7 0 ((M21 0 0 0 1).toNatClampNeg) 3 v5) (fun M28 => wk_mu (wk_up M28 7 0 ((M21 0 0 0 1).toNatClampNeg) 4 v6) (fun M29 => wk_mu (wk_up M29 0 0 0 1 ((M29 0 0 0 1) + 1)) (fun M30 => wk_cl (f_X3_kept ((M30 0 0 0 1) - 1) M30) (fun r31 M32 => (some (r31, M32)))))))))))) else (some ((-3), M17))) else (some ((-1), M17)))) else (some ((-1), M14)))) else (some ((-1), M11)))) else (some ((-1), M8)))) else (some ((-1), M5)))) else (some ((-1), M2))))
set_option maxRecDepth 20000 in
theorem q_X3_room {s : State} {args : Array Value} (hts : ∀ w ∈ wsX3_room, w.before args s = true) : (Cond.fieldLink RX3 10 "WokenRooms" "chip" "LWokenRooms$Chip;").before args s = true ∧ (Cond.fieldLink RX3 34 "WokenRooms$Chip" "roomCount" "I").before args s = true ∧ (Cond.fieldLink RX3 41 "WokenRooms$Chip" "rooms" "[LWokenRooms$Room;").before args s = true ∧ (Cond.fieldLink RX3 51 "WokenRooms$Room" "costs" "[I").before args s = true := ⟨hts _ (List.mem_of_getElem? (i := 1) rfl), hts _ (List.mem_of_getElem? (i := 2) rfl), hts _ (List.mem_of_getElem? (i := 3) rfl), hts _ (List.mem_of_getElem? (i := 4) rfl)⟩
set_option maxRecDepth 100000 in
set_option maxHeartbeats 4000000 in
theorem w_X3_room_0 {r0 : Int32} (CX : wk_X p l e R s m args below meth c cells slots Q cX3_room 8 RX3 wsX3_room D y B Lk A 4 103) (RT : wk_Ri p l e R s m args below meth c cells slots Q cX3_room D y B Lk A r0 MM) {v1 : Int32} {v2 : Int32} {v3 : Int32} {v4 : Int32} {v5 : Int32} {v6 : Int32} {M : wk_T} {H : Heap} {locs : List Loc} {ls : Array Slot} (h : f_X3_room v1 v2 v3 v4 v5 v6 M = some (r0, MM)) (hl : lv_has ls 8 [(0, .ref (B 9 0 0)), (1, .int v1), (2, .int v2), (3, .int v3), (4, .int v4), (5, .int v5), (6, .int v6)]) (hP : wk_H D y B Lk M H) (hS : va_S A s.heap H locs) : W p l e R s m args below meth c H locs cells slots Q (F0 m 0 ls []) := by
  obtain ⟨⟨hx, hb, hml, hown, hts⟩, hK, hI, hL, hA, hfr, hlo, hcs⟩ := id CX
  obtain ⟨q1, q2, q3, q4⟩ := q_X3_room hts
  unfold f_X3_room at h
  refine lv_iload_n hx hb dX3_room_0 rfl (lv_at hl 1 rfl) ?_
  refine lv_iconst (v := 0) hx hb dX3_room_1 (by decide) ?_
  refine lv_iconst (v := 1) hx hb dX3_room_2 (by decide) ?_
  obtain ⟨r1, M2, er1, h⟩ := wk_cl_e h
  refine wk_cSi (As := [.int v1, .int 0, .int 1]) (rest := []) ⟨hx, hb, hml, hown, hts⟩ (m_X3_outside l hI hL er1) (va_cwS 3 hts gX3_room_X3_outside rfl rfl rfl (by decide +kernel) ⟨Nat.le_trans (by decide) hfr, Nat.le_trans (by decide) hlo⟩) hK hP hS hA rfl hl.1 (lv_room (Nat.le_of_ble_eq_true rfl)) hcs dX3_room_3 (fun H locs hP hS => ?_)
  refine lv_if_ne (tgt := 63) hx hb dX3_room_6 (by decide) (fun g3 => ?_) (fun g3 => ?_)
  · have h := wk_n g3 h
    refine lv_iconst (v := (-1)) hx hb dX3_room_63 (by decide) ?_
    exact RT _ _ _ _ _ _ h hP hS dX3_room_64
  · have h := wk_p g3 h
    refine lv_iload_n hx hb dX3_room_9 rfl (lv_at hl 2 rfl) ?_
    refine lv_iconst (v := 0) hx hb dX3_room_10 (by decide) ?_
    refine lv_sipush (v := 500) hx hb dX3_room_11 (by decide) ?_
    obtain ⟨r4, M5, er4, h⟩ := wk_cl_e h
    refine wk_cSi (As := [.int v2, .int 0, .int 500]) (rest := []) ⟨hx, hb, hml, hown, hts⟩ (m_X3_outside l hI hL er4) (va_cwS 3 hts gX3_room_X3_outside rfl rfl rfl (by decide +kernel) ⟨Nat.le_trans (by decide) hfr, Nat.le_trans (by decide) hlo⟩) hK hP hS hA rfl hl.1 (lv_room (Nat.le_of_ble_eq_true rfl)) hcs dX3_room_14 (fun H locs hP hS => ?_)
    refine lv_if_ne (tgt := 63) hx hb dX3_room_17 (by decide) (fun g6 => ?_) (fun g6 => ?_)
    · have h := wk_n g6 h
      refine lv_iconst (v := (-1)) hx hb dX3_room_63 (by decide) ?_
      exact RT _ _ _ _ _ _ h hP hS dX3_room_64
    · have h := wk_p g6 h
      refine lv_iload_n hx hb dX3_room_20 rfl (lv_at hl 3 rfl) ?_
      refine lv_iconst (v := 1) hx hb dX3_room_21 (by decide) ?_
      refine lv_bipush (v := 20) hx hb dX3_room_22 (by decide) ?_
      obtain ⟨r7, M8, er7, h⟩ := wk_cl_e h
      refine wk_cSi (As := [.int v3, .int 1, .int 20]) (rest := []) ⟨hx, hb, hml, hown, hts⟩ (m_X3_outside l hI hL er7) (va_cwS 3 hts gX3_room_X3_outside rfl rfl rfl (by decide +kernel) ⟨Nat.le_trans (by decide) hfr, Nat.le_trans (by decide) hlo⟩) hK hP hS hA rfl hl.1 (lv_room (Nat.le_of_ble_eq_true rfl)) hcs dX3_room_24 (fun H locs hP hS => ?_)
      refine lv_if_ne (tgt := 63) hx hb dX3_room_27 (by decide) (fun g9 => ?_) (fun g9 => ?_)
      · have h := wk_n g9 h
        refine lv_iconst (v := (-1)) hx hb dX3_room_63 (by decide) ?_
        exact RT _ _ _ _ _ _ h hP hS dX3_room_64
      · have h := wk_p g9 h
        refine lv_iload hx hb dX3_room_30 (lv_at hl 4 rfl) ?_
        refine lv_iconst (v := 1) hx hb dX3_room_32 (by decide) ?_
        refine lv_bipush (v := 50) hx hb dX3_room_33 (by decide) ?_
        obtain ⟨r10, M11, er10, h⟩ := wk_cl_e h
        refine wk_cSi (As := [.int v4, .int 1, .int 50]) (rest := []) ⟨hx, hb, hml, hown, hts⟩ (m_X3_outside l hI hL er10) (va_cwS 3 hts gX3_room_X3_outside rfl rfl rfl (by decide +kernel) ⟨Nat.le_trans (by decide) hfr, Nat.le_trans (by decide) hlo⟩) hK hP hS hA rfl hl.1 (lv_room (Nat.le_of_ble_eq_true rfl)) hcs dX3_room_35 (fun H locs hP hS => ?_)
        refine lv_if_ne (tgt := 63) hx hb dX3_room_38 (by decide) (fun g12 => ?_) (fun g12 => ?_)
        · have h := wk_n g12 h
          refine lv_iconst (v := (-1)) hx hb dX3_room_63 (by decide) ?_
          exact RT _ _ _ _ _ _ h hP hS dX3_room_64
        · have h := wk_p g12 h
          refine lv_iload hx hb dX3_room_41 (lv_at hl 5 rfl) ?_
          refine lv_iconst (v := 0) hx hb dX3_room_43 (by decide) ?_
          refine lv_bipush (v := 50) hx hb dX3_room_44 (by decide) ?_
          obtain ⟨r13, M14, er13, h⟩ := wk_cl_e h
          refine wk_cSi (As := [.int v5, .int 0, .int 50]) (rest := []) ⟨hx, hb, hml, hown, hts⟩ (m_X3_outside l hI hL er13) (va_cwS 3 hts gX3_room_X3_outside rfl rfl rfl (by decide +kernel) ⟨Nat.le_trans (by decide) hfr, Nat.le_trans (by decide) hlo⟩) hK hP hS hA rfl hl.1 (lv_room (Nat.le_of_ble_eq_true rfl)) hcs dX3_room_46 (fun H locs hP hS => ?_)
          refine lv_if_ne (tgt := 63) hx hb dX3_room_49 (by decide) (fun g15 => ?_) (fun g15 => ?_)
          · have h := wk_n g15 h
            refine lv_iconst (v := (-1)) hx hb dX3_room_63 (by decide) ?_
            exact RT _ _ _ _ _ _ h hP hS dX3_room_64
          · have h := wk_p g15 h
            refine lv_iload hx hb dX3_room_52 (lv_at hl 6 rfl) ?_
            refine lv_iconst (v := 0) hx hb dX3_room_54 (by decide) ?_
            refine lv_bipush (v := 20) hx hb dX3_room_55 (by decide) ?_
            obtain ⟨r16, M17, er16, h⟩ := wk_cl_e h
            refine wk_cSi (As := [.int v6, .int 0, .int 20]) (rest := []) ⟨hx, hb, hml, hown, hts⟩ (m_X3_outside l hI hL er16) (va_cwS 3 hts gX3_room_X3_outside rfl rfl rfl (by decide +kernel) ⟨Nat.le_trans (by decide) hfr, Nat.le_trans (by decide) hlo⟩) hK hP hS hA rfl hl.1 (lv_room (Nat.le_of_ble_eq_true rfl)) hcs dX3_room_57 (fun H locs hP hS => ?_)
            refine lv_if_eq (tgt := 65) hx hb dX3_room_60 (by decide) (fun g18 => ?_) (fun g18 => ?_)
            · have h := wk_p g18 h
              refine lv_aload_n hx hb dX3_room_65 rfl (lv_at hl 0 rfl) ?_
              refine wk_get (ref := "WokenRooms") (C := RX3) (T := TX3) (N := 5) (ci := 3) (v := .ref (B 0 0 0)) hx hb hts (fun _ h => List.mem_cons_of_mem _ (List.mem_append_left _ (List.mem_append_left _ (List.mem_append_right _ h)))) hown hK hP (wk_l9 hL 9 (by decide) (by decide)) wk_c9 rfl 0 (by decide) q1 rfl rfl dX3_room_66 ?_
              refine wk_get (ref := "WokenRooms$Chip") (C := RX0) (T := TX0) (N := 8) (ci := 0) (v := .int (M17 0 0 0 1)) hx hb hts (fun _ h => List.mem_cons_of_mem _ (List.mem_append_left _ (List.mem_append_right _ h))) hown hK hP (wk_l0 hL (by decide) 0 (by decide)) wk_c0 rfl 1 (by decide) q2 rfl rfl dX3_room_69 ?_
              refine lv_bipush (v := 8) hx hb dX3_room_72 (by decide) ?_
              refine lv_icmp_lt (tgt := 80) hx hb dX3_room_74 (by decide) (fun g19 => ?_) (fun g19 => ?_)
              · have h := wk_p g19 h
                refine lv_aload_n hx hb dX3_room_80 rfl (lv_at hl 0 rfl) ?_
                obtain ⟨r20, M21, er20, h⟩ := wk_cl_e h
                refine wk_cVv (As := []) (rest := []) ⟨hx, hb, hml, hown, hts⟩ (m_X3_note l hI hL er20) (cwV 0 hts gX3_room_X3_note rfl rfl rfl (by decide +kernel) ⟨Nat.le_trans (by decide) hfr, Nat.le_trans (by decide) hlo⟩) hK hP hS hA (wk_l9 hL 9 (by decide) (by decide)) wk_c9 rfl rfl hl.1 (lv_room (Nat.le_of_ble_eq_true rfl)) hcs dX3_room_81 (fun H locs hP hS => ?_)
                refine lv_aload_n hx hb dX3_room_84 rfl (lv_at hl 0 rfl) ?_
                refine wk_get (ref := "WokenRooms") (C := RX3) (T := TX3) (N := 5) (ci := 3) (v := .ref (B 0 0 0)) hx hb hts (fun _ h => List.mem_cons_of_mem _ (List.mem_append_left _ (List.mem_append_left _ (List.mem_append_right _ h)))) hown hK hP (wk_l9 hL 9 (by decide) (by decide)) wk_c9 rfl 0 (by decide) q1 rfl rfl dX3_room_85 ?_
                refine wk_get (ref := "WokenRooms$Chip") (C := RX0) (T := TX0) (N := 8) (ci := 0) (v := .ref (B 1 0 0)) hx hb hts (fun _ h => List.mem_cons_of_mem _ (List.mem_append_left _ (List.mem_append_right _ h))) hown hK hP (wk_l0 hL (by decide) 0 (by decide)) wk_c0 rfl 0 (by decide) q3 rfl rfl dX3_room_88 ?_
                refine lv_aload_n hx hb dX3_room_91 rfl (lv_at hl 0 rfl) ?_
                refine wk_get (ref := "WokenRooms") (C := RX3) (T := TX3) (N := 5) (ci := 3) (v := .ref (B 0 0 0)) hx hb hts (fun _ h => List.mem_cons_of_mem _ (List.mem_append_left _ (List.mem_append_left _ (List.mem_append_right _ h)))) hown hK hP (wk_l9 hL 9 (by decide) (by decide)) wk_c9 rfl 0 (by decide) q1 rfl rfl dX3_room_92 ?_
                refine wk_get (ref := "WokenRooms$Chip") (C := RX0) (T := TX0) (N := 8) (ci := 0) (v := .int (M21 0 0 0 1)) hx hb hts (fun _ h => List.mem_cons_of_mem _ (List.mem_append_left _ (List.mem_append_right _ h))) hown hK hP (wk_l0 hL (by decide) 0 (by decide)) wk_c0 rfl 1 (by decide) q2 rfl rfl dX3_room_95 ?_
                obtain ⟨g22, h⟩ := wk_gd_e h
                refine wk_aaldR (j := (M21 0 0 0 1).toNatClampNeg) hx hb hK hP (wk_l0 hL (by decide) 1 (by decide)) g22 rfl dX3_room_98 ?_
                refine lv_astore (lv' := [(7, .ref (B 6 0 ((M21 0 0 0 1).toNatClampNeg))), (0, .ref (B 9 0 0)), (1, .int v1), (2, .int v2), (3, .int v3), (4, .int v4), (5, .int v5), (6, .int v6)]) hx hb dX3_room_99 hl (by decide) rfl (fun ls hl => ?_)
                refine lv_aload hx hb dX3_room_101 (lv_at hl 0 rfl) ?_
                refine lv_iload_n hx hb dX3_room_103 rfl (lv_at hl 2 rfl) ?_
                obtain ⟨r23, M24, er23, h⟩ := wk_cl_e h
                refine wk_cVv (As := [.int v1]) (rest := []) ⟨hx, hb, hml, hown, hts⟩ (m_X2_startAnew l hI hL (by decide) (wk_ix g22) er23) (cwV 1 hts gX3_room_X2_startAnew rfl rfl rfl (by decide +kernel) ⟨Nat.le_trans (by decide) hfr, Nat.le_trans (by decide) hlo⟩) hK hP hS hA (wk_l6 hL (by decide) (wk_ix g22) 6 (by decide) (by decide)) wk_c6 rfl rfl hl.1 (lv_room (Nat.le_of_ble_eq_true rfl)) hcs dX3_room_104 (fun H locs hP hS => ?_)
                refine lv_aload hx hb dX3_room_107 (lv_at hl 0 rfl) ?_
                refine wk_get (ref := "WokenRooms$Room") (C := RX2) (T := TX2) (N := 15) (ci := 2) (v := .ref (B 7 0 ((M21 0 0 0 1).toNatClampNeg))) hx hb hts (fun _ h => List.mem_cons_of_mem _ (List.mem_append_right _ h)) hown hK hP (wk_l6 hL (by decide) (wk_ix g22) 6 (by decide) (by decide)) wk_c6 rfl 0 (by decide) q4 rfl rfl dX3_room_109 ?_
                refine lv_iconst (v := 0) hx hb dX3_room_112 (by decide) ?_
                refine lv_iload_n hx hb dX3_room_113 rfl (lv_at hl 3 rfl) ?_
                obtain ⟨M25, eM25, h⟩ := wk_mu_e h
                refine wk_iast (j := 0) hx hb hK hP hI hS hA (wk_l6 hL (by decide) (wk_ix g22) 7 (by decide) (by decide)) wk_c7 (by decide) (by decide) (by rfl) dX3_room_114 (fun H locs hP hS => ?_)
                rw [eM25] at hP
                refine lv_aload hx hb dX3_room_115 (lv_at hl 0 rfl) ?_
                refine wk_get (ref := "WokenRooms$Room") (C := RX2) (T := TX2) (N := 15) (ci := 2) (v := .ref (B 7 0 ((M21 0 0 0 1).toNatClampNeg))) hx hb hts (fun _ h => List.mem_cons_of_mem _ (List.mem_append_right _ h)) hown hK hP (wk_l6 hL (by decide) (wk_ix g22) 6 (by decide) (by decide)) wk_c6 rfl 0 (by decide) q4 rfl rfl dX3_room_117 ?_
                refine lv_iconst (v := 1) hx hb dX3_room_120 (by decide) ?_
                refine lv_iload_n hx hb dX3_room_121 rfl (lv_at hl 4 rfl) ?_
                obtain ⟨M26, eM26, h⟩ := wk_mu_e h
                refine wk_iast (j := 1) hx hb hK hP hI hS hA (wk_l6 hL (by decide) (wk_ix g22) 7 (by decide) (by decide)) wk_c7 (by decide) (by decide) (by rfl) dX3_room_122 (fun H locs hP hS => ?_)
                rw [eM26] at hP
                refine lv_aload hx hb dX3_room_123 (lv_at hl 0 rfl) ?_
                refine wk_get (ref := "WokenRooms$Room") (C := RX2) (T := TX2) (N := 15) (ci := 2) (v := .ref (B 7 0 ((M21 0 0 0 1).toNatClampNeg))) hx hb hts (fun _ h => List.mem_cons_of_mem _ (List.mem_append_right _ h)) hown hK hP (wk_l6 hL (by decide) (wk_ix g22) 6 (by decide) (by decide)) wk_c6 rfl 0 (by decide) q4 rfl rfl dX3_room_125 ?_
                refine lv_iconst (v := 2) hx hb dX3_room_128 (by decide) ?_
                refine lv_iload hx hb dX3_room_129 (lv_at hl 5 rfl) ?_
                obtain ⟨M27, eM27, h⟩ := wk_mu_e h
                refine wk_iast (j := 2) hx hb hK hP hI hS hA (wk_l6 hL (by decide) (wk_ix g22) 7 (by decide) (by decide)) wk_c7 (by decide) (by decide) (by rfl) dX3_room_131 (fun H locs hP hS => ?_)
                rw [eM27] at hP
                refine lv_aload hx hb dX3_room_132 (lv_at hl 0 rfl) ?_
                refine wk_get (ref := "WokenRooms$Room") (C := RX2) (T := TX2) (N := 15) (ci := 2) (v := .ref (B 7 0 ((M21 0 0 0 1).toNatClampNeg))) hx hb hts (fun _ h => List.mem_cons_of_mem _ (List.mem_append_right _ h)) hown hK hP (wk_l6 hL (by decide) (wk_ix g22) 6 (by decide) (by decide)) wk_c6 rfl 0 (by decide) q4 rfl rfl dX3_room_134 ?_
                refine lv_iconst (v := 3) hx hb dX3_room_137 (by decide) ?_
                refine lv_iload hx hb dX3_room_138 (lv_at hl 6 rfl) ?_
                obtain ⟨M28, eM28, h⟩ := wk_mu_e h
                refine wk_iast (j := 3) hx hb hK hP hI hS hA (wk_l6 hL (by decide) (wk_ix g22) 7 (by decide) (by decide)) wk_c7 (by decide) (by decide) (by rfl) dX3_room_140 (fun H locs hP hS => ?_)
                rw [eM28] at hP
                refine lv_aload hx hb dX3_room_141 (lv_at hl 0 rfl) ?_
                refine wk_get (ref := "WokenRooms$Room") (C := RX2) (T := TX2) (N := 15) (ci := 2) (v := .ref (B 7 0 ((M21 0 0 0 1).toNatClampNeg))) hx hb hts (fun _ h => List.mem_cons_of_mem _ (List.mem_append_right _ h)) hown hK hP (wk_l6 hL (by decide) (wk_ix g22) 6 (by decide) (by decide)) wk_c6 rfl 0 (by decide) q4 rfl rfl dX3_room_143 ?_
                refine lv_iconst (v := 4) hx hb dX3_room_146 (by decide) ?_
                refine lv_iload hx hb dX3_room_147 (lv_at hl 7 rfl) ?_
                obtain ⟨M29, eM29, h⟩ := wk_mu_e h
                refine wk_iast (j := 4) hx hb hK hP hI hS hA (wk_l6 hL (by decide) (wk_ix g22) 7 (by decide) (by decide)) wk_c7 (by decide) (by decide) (by rfl) dX3_room_149 (fun H locs hP hS => ?_)
                rw [eM29] at hP
                refine lv_aload_n hx hb dX3_room_150 rfl (lv_at hl 1 rfl) ?_
                refine wk_get (ref := "WokenRooms") (C := RX3) (T := TX3) (N := 5) (ci := 3) (v := .ref (B 0 0 0)) hx hb hts (fun _ h => List.mem_cons_of_mem _ (List.mem_append_left _ (List.mem_append_left _ (List.mem_append_right _ h)))) hown hK hP (wk_l9 hL 9 (by decide) (by decide)) wk_c9 rfl 0 (by decide) q1 rfl rfl dX3_room_151 ?_
                refine lv_dup hx hb dX3_room_154 rfl ?_
                refine wk_get (ref := "WokenRooms$Chip") (C := RX0) (T := TX0) (N := 8) (ci := 0) (v := .int (M29 0 0 0 1)) hx hb hts (fun _ h => List.mem_cons_of_mem _ (List.mem_append_left _ (List.mem_append_right _ h))) hown hK hP (wk_l0 hL (by decide) 0 (by decide)) wk_c0 rfl 1 (by decide) q2 rfl rfl dX3_room_155 ?_
                refine lv_iconst (v := 1) hx hb dX3_room_158 (by decide) ?_
                refine lv_iadd hx hb dX3_room_159 ?_
                obtain ⟨M30, eM30, h⟩ := wk_mu_e h
                refine wk_put (ref := "WokenRooms$Chip") (C := RX0) (T := TX0) (N := 8) (ci := 0) hx hb hts (fun _ h => List.mem_cons_of_mem _ (List.mem_append_left _ (List.mem_append_right _ h))) tyX0 tyX0_ok nmX0 hown hK hP hI hS hA (wk_l0 hL (by decide) 0 (by decide)) wk_c0 rfl 1 (by decide) q2 rfl rfl (by decide +kernel) (Nat.le_of_ble_eq_true rfl) (by rfl) dX3_room_160 (fun H locs hP hS => ?_)
                rw [eM30] at hP
                refine lv_aload_n hx hb dX3_room_163 rfl (lv_at hl 1 rfl) ?_
                refine lv_aload_n hx hb dX3_room_164 rfl (lv_at hl 1 rfl) ?_
                refine wk_get (ref := "WokenRooms") (C := RX3) (T := TX3) (N := 5) (ci := 3) (v := .ref (B 0 0 0)) hx hb hts (fun _ h => List.mem_cons_of_mem _ (List.mem_append_left _ (List.mem_append_left _ (List.mem_append_right _ h)))) hown hK hP (wk_l9 hL 9 (by decide) (by decide)) wk_c9 rfl 0 (by decide) q1 rfl rfl dX3_room_165 ?_
                refine wk_get (ref := "WokenRooms$Chip") (C := RX0) (T := TX0) (N := 8) (ci := 0) (v := .int (M30 0 0 0 1)) hx hb hts (fun _ h => List.mem_cons_of_mem _ (List.mem_append_left _ (List.mem_append_right _ h))) hown hK hP (wk_l0 hL (by decide) 0 (by decide)) wk_c0 rfl 1 (by decide) q2 rfl rfl dX3_room_168 ?_
                refine lv_iconst (v := 1) hx hb dX3_room_171 (by decide) ?_
                refine lv_isub hx hb dX3_room_172 ?_
                obtain ⟨r31, M32, er31, h⟩ := wk_cl_e h
                refine wk_cVi (As := [.int ((M30 0 0 0 1) - 1)]) (rest := []) ⟨hx, hb, hml, hown, hts⟩ (m_X3_kept l hI hL er31) (cwV 1 hts gX3_room_X3_kept rfl rfl rfl (by decide +kernel) ⟨Nat.le_trans (by decide) hfr, Nat.le_trans (by decide) hlo⟩) hK hP hS hA (wk_l9 hL 9 (by decide) (by decide)) wk_c9 rfl rfl hl.1 (lv_room (Nat.le_of_ble_eq_true rfl)) hcs dX3_room_173 (fun H locs hP hS => ?_)
                exact RT _ _ _ _ _ _ h hP hS dX3_room_176
              · have h := wk_n g19 h
                refine lv_bipush (v := (-3)) hx hb dX3_room_77 (by decide) ?_
                exact RT _ _ _ _ _ _ h hP hS dX3_room_79
            · have h := wk_n g18 h
              refine lv_iconst (v := (-1)) hx hb dX3_room_63 (by decide) ?_
              exact RT _ _ _ _ _ _ h hP hS dX3_room_64
set_option maxRecDepth 100000 in
set_option maxHeartbeats 4000000 in
theorem m_X3_room (l : Launch) {D : va_G} {y : Nat → ClassId} {B : Nat → Nat → Nat → Nat} {Lk : Nat → Nat → Nat → Prop} (hI : wk_I B Lk) (hL : wk_L Lk) {v1 : Int32} {v2 : Int32} {v3 : Int32} {v4 : Int32} {v5 : Int32} {v6 : Int32} {M : wk_T} {r0 : Int32} {MM : wk_T} (hf : f_X3_room v1 v2 v3 v4 v5 v6 M = some (r0, MM)) : wk_Mi l yX3_room wsX3_room 4 103 D y B Lk [.ref (B 9 0 0), .int v1, .int v2, .int v3, .int v4, .int v5, .int v6] M r0 MM :=
  wk_ofI (own := RX3) (bytes := cX3_room) (maxL := 8) (ret := some .int) (by decide +kernel) rfl rfl (Or.inl rfl) (Nat.le_of_ble_eq_true rfl) hI hL (fun p e s m args below meth c ls CX RTi RTz hl hP hS => w_X3_room_0 CX (RTi rfl) hf hl hP hS)
def f_X3_need (v1 : Int32) (v2 : Int32) (M : wk_T) : Option (Int32 × wk_T) := wk_cl (f_X3_note M) (fun _ M2 => wk_cl (f_X0_setNeed 0 v1 v2 M2) (fun r3 M4 => wk_cl (f_X3_kept r3 M4) (fun r5 M6 => (some (r5, M6)))))
set_option maxRecDepth 20000 in
theorem q_X3_need {s : State} {args : Array Value} (hts : ∀ w ∈ wsX3_need, w.before args s = true) : (Cond.fieldLink RX3 10 "WokenRooms" "chip" "LWokenRooms$Chip;").before args s = true := hts _ (List.mem_of_getElem? (i := 1) rfl)
set_option maxRecDepth 100000 in
set_option maxHeartbeats 4000000 in
theorem w_X3_need_0 {r0 : Int32} (CX : wk_X p l e R s m args below meth c cells slots Q cX3_need 3 RX3 wsX3_need D y B Lk A 4 103) (RT : wk_Ri p l e R s m args below meth c cells slots Q cX3_need D y B Lk A r0 MM) {v1 : Int32} {v2 : Int32} {M : wk_T} {H : Heap} {locs : List Loc} {ls : Array Slot} (h : f_X3_need v1 v2 M = some (r0, MM)) (hl : lv_has ls 3 [(0, .ref (B 9 0 0)), (1, .int v1), (2, .int v2)]) (hP : wk_H D y B Lk M H) (hS : va_S A s.heap H locs) : W p l e R s m args below meth c H locs cells slots Q (F0 m 0 ls []) := by
  obtain ⟨⟨hx, hb, hml, hown, hts⟩, hK, hI, hL, hA, hfr, hlo, hcs⟩ := id CX
  have q1 := q_X3_need hts
  unfold f_X3_need at h
  refine lv_aload_n hx hb dX3_need_0 rfl (lv_at hl 0 rfl) ?_
  obtain ⟨r1, M2, er1, h⟩ := wk_cl_e h
  refine wk_cVv (As := []) (rest := []) ⟨hx, hb, hml, hown, hts⟩ (m_X3_note l hI hL er1) (cwV 0 hts gX3_need_X3_note rfl rfl rfl (by decide +kernel) ⟨Nat.le_trans (by decide) hfr, Nat.le_trans (by decide) hlo⟩) hK hP hS hA (wk_l9 hL 9 (by decide) (by decide)) wk_c9 rfl rfl hl.1 (lv_room (Nat.le_of_ble_eq_true rfl)) hcs dX3_need_1 (fun H locs hP hS => ?_)
  refine lv_aload_n hx hb dX3_need_4 rfl (lv_at hl 0 rfl) ?_
  refine lv_aload_n hx hb dX3_need_5 rfl (lv_at hl 0 rfl) ?_
  refine wk_get (ref := "WokenRooms") (C := RX3) (T := TX3) (N := 5) (ci := 3) (v := .ref (B 0 0 0)) hx hb hts (fun _ h => List.mem_cons_of_mem _ (List.mem_append_left _ (List.mem_append_left _ (List.mem_append_right _ h)))) hown hK hP (wk_l9 hL 9 (by decide) (by decide)) wk_c9 rfl 0 (by decide) q1 rfl rfl dX3_need_6 ?_
  refine lv_iload_n hx hb dX3_need_9 rfl (lv_at hl 1 rfl) ?_
  refine lv_iload_n hx hb dX3_need_10 rfl (lv_at hl 2 rfl) ?_
  obtain ⟨r3, M4, er3, h⟩ := wk_cl_e h
  refine wk_cVi (As := [.int v1, .int v2]) (rest := [.ref (B 9 0 0)]) ⟨hx, hb, hml, hown, hts⟩ (m_X0_setNeed l hI hL (by decide) er3) (cwV 2 hts gX3_need_X0_setNeed rfl rfl rfl (by decide +kernel) ⟨Nat.le_trans (by decide) hfr, Nat.le_trans (by decide) hlo⟩) hK hP hS hA (wk_l0 hL (by decide) 0 (by decide)) wk_c0 rfl rfl hl.1 (lv_room (Nat.le_of_ble_eq_true rfl)) hcs dX3_need_11 (fun H locs hP hS => ?_)
  obtain ⟨r5, M6, er5, h⟩ := wk_cl_e h
  refine wk_cVi (As := [.int r3]) (rest := []) ⟨hx, hb, hml, hown, hts⟩ (m_X3_kept l hI hL er5) (cwV 1 hts gX3_need_X3_kept rfl rfl rfl (by decide +kernel) ⟨Nat.le_trans (by decide) hfr, Nat.le_trans (by decide) hlo⟩) hK hP hS hA (wk_l9 hL 9 (by decide) (by decide)) wk_c9 rfl rfl hl.1 (lv_room (Nat.le_of_ble_eq_true rfl)) hcs dX3_need_14 (fun H locs hP hS => ?_)
  exact RT _ _ _ _ _ _ h hP hS dX3_need_17
set_option maxRecDepth 100000 in
set_option maxHeartbeats 4000000 in
theorem m_X3_need (l : Launch) {D : va_G} {y : Nat → ClassId} {B : Nat → Nat → Nat → Nat} {Lk : Nat → Nat → Nat → Prop} (hI : wk_I B Lk) (hL : wk_L Lk) {v1 : Int32} {v2 : Int32} {M : wk_T} {r0 : Int32} {MM : wk_T} (hf : f_X3_need v1 v2 M = some (r0, MM)) : wk_Mi l yX3_need wsX3_need 4 103 D y B Lk [.ref (B 9 0 0), .int v1, .int v2] M r0 MM :=
  wk_ofI (own := RX3) (bytes := cX3_need) (maxL := 3) (ret := some .int) (by decide +kernel) rfl rfl (Or.inl rfl) (Nat.le_of_ble_eq_true rfl) hI hL (fun p e s m args below meth c ls CX RTi RTz hl hP hS => w_X3_need_0 CX (RTi rfl) hf hl hP hS)
def f_X3_plug (v1 : Int32) (v2 : Int32) (M : wk_T) : Option (Int32 × wk_T) := wk_cl (f_X3_note M) (fun _ M2 => wk_cl (f_X0_plugIn 0 v1 v2 M2) (fun r3 M4 => wk_cl (f_X3_kept r3 M4) (fun r5 M6 => (some (r5, M6)))))
set_option maxRecDepth 20000 in
theorem q_X3_plug {s : State} {args : Array Value} (hts : ∀ w ∈ wsX3_plug, w.before args s = true) : (Cond.fieldLink RX3 10 "WokenRooms" "chip" "LWokenRooms$Chip;").before args s = true := hts _ (List.mem_of_getElem? (i := 1) rfl)
set_option maxRecDepth 100000 in
set_option maxHeartbeats 4000000 in
theorem w_X3_plug_0 {r0 : Int32} (CX : wk_X p l e R s m args below meth c cells slots Q cX3_plug 3 RX3 wsX3_plug D y B Lk A 4 103) (RT : wk_Ri p l e R s m args below meth c cells slots Q cX3_plug D y B Lk A r0 MM) {v1 : Int32} {v2 : Int32} {M : wk_T} {H : Heap} {locs : List Loc} {ls : Array Slot} (h : f_X3_plug v1 v2 M = some (r0, MM)) (hl : lv_has ls 3 [(0, .ref (B 9 0 0)), (1, .int v1), (2, .int v2)]) (hP : wk_H D y B Lk M H) (hS : va_S A s.heap H locs) : W p l e R s m args below meth c H locs cells slots Q (F0 m 0 ls []) := by
  obtain ⟨⟨hx, hb, hml, hown, hts⟩, hK, hI, hL, hA, hfr, hlo, hcs⟩ := id CX
  have q1 := q_X3_plug hts
  unfold f_X3_plug at h
  refine lv_aload_n hx hb dX3_plug_0 rfl (lv_at hl 0 rfl) ?_
  obtain ⟨r1, M2, er1, h⟩ := wk_cl_e h
  refine wk_cVv (As := []) (rest := []) ⟨hx, hb, hml, hown, hts⟩ (m_X3_note l hI hL er1) (cwV 0 hts gX3_plug_X3_note rfl rfl rfl (by decide +kernel) ⟨Nat.le_trans (by decide) hfr, Nat.le_trans (by decide) hlo⟩) hK hP hS hA (wk_l9 hL 9 (by decide) (by decide)) wk_c9 rfl rfl hl.1 (lv_room (Nat.le_of_ble_eq_true rfl)) hcs dX3_plug_1 (fun H locs hP hS => ?_)
  refine lv_aload_n hx hb dX3_plug_4 rfl (lv_at hl 0 rfl) ?_
  refine lv_aload_n hx hb dX3_plug_5 rfl (lv_at hl 0 rfl) ?_
  refine wk_get (ref := "WokenRooms") (C := RX3) (T := TX3) (N := 5) (ci := 3) (v := .ref (B 0 0 0)) hx hb hts (fun _ h => List.mem_cons_of_mem _ (List.mem_append_left _ (List.mem_append_left _ (List.mem_append_right _ h)))) hown hK hP (wk_l9 hL 9 (by decide) (by decide)) wk_c9 rfl 0 (by decide) q1 rfl rfl dX3_plug_6 ?_
  refine lv_iload_n hx hb dX3_plug_9 rfl (lv_at hl 1 rfl) ?_
  refine lv_iload_n hx hb dX3_plug_10 rfl (lv_at hl 2 rfl) ?_
  obtain ⟨r3, M4, er3, h⟩ := wk_cl_e h
  refine wk_cVi (As := [.int v1, .int v2]) (rest := [.ref (B 9 0 0)]) ⟨hx, hb, hml, hown, hts⟩ (m_X0_plugIn l hI hL (by decide) er3) (cwV 2 hts gX3_plug_X0_plugIn rfl rfl rfl (by decide +kernel) ⟨Nat.le_trans (by decide) hfr, Nat.le_trans (by decide) hlo⟩) hK hP hS hA (wk_l0 hL (by decide) 0 (by decide)) wk_c0 rfl rfl hl.1 (lv_room (Nat.le_of_ble_eq_true rfl)) hcs dX3_plug_11 (fun H locs hP hS => ?_)
  obtain ⟨r5, M6, er5, h⟩ := wk_cl_e h
  refine wk_cVi (As := [.int r3]) (rest := []) ⟨hx, hb, hml, hown, hts⟩ (m_X3_kept l hI hL er5) (cwV 1 hts gX3_plug_X3_kept rfl rfl rfl (by decide +kernel) ⟨Nat.le_trans (by decide) hfr, Nat.le_trans (by decide) hlo⟩) hK hP hS hA (wk_l9 hL 9 (by decide) (by decide)) wk_c9 rfl rfl hl.1 (lv_room (Nat.le_of_ble_eq_true rfl)) hcs dX3_plug_14 (fun H locs hP hS => ?_)
  exact RT _ _ _ _ _ _ h hP hS dX3_plug_17
set_option maxRecDepth 100000 in
set_option maxHeartbeats 4000000 in
theorem m_X3_plug (l : Launch) {D : va_G} {y : Nat → ClassId} {B : Nat → Nat → Nat → Nat} {Lk : Nat → Nat → Nat → Prop} (hI : wk_I B Lk) (hL : wk_L Lk) {v1 : Int32} {v2 : Int32} {M : wk_T} {r0 : Int32} {MM : wk_T} (hf : f_X3_plug v1 v2 M = some (r0, MM)) : wk_Mi l yX3_plug wsX3_plug 4 103 D y B Lk [.ref (B 9 0 0), .int v1, .int v2] M r0 MM :=
  wk_ofI (own := RX3) (bytes := cX3_plug) (maxL := 3) (ret := some .int) (by decide +kernel) rfl rfl (Or.inl rfl) (Nat.le_of_ble_eq_true rfl) hI hL (fun p e s m args below meth c ls CX RTi RTz hl hP hS => w_X3_plug_0 CX (RTi rfl) hf hl hP hS)
def f_X3_unplug (v1 : Int32) (M : wk_T) : Option (Int32 × wk_T) := wk_cl (f_X3_note M) (fun _ M2 => wk_cl (f_X0_plugOut 0 v1 M2) (fun r3 M4 => wk_cl (f_X3_kept r3 M4) (fun r5 M6 => (some (r5, M6)))))
set_option maxRecDepth 20000 in
theorem q_X3_unplug {s : State} {args : Array Value} (hts : ∀ w ∈ wsX3_unplug, w.before args s = true) : (Cond.fieldLink RX3 10 "WokenRooms" "chip" "LWokenRooms$Chip;").before args s = true := hts _ (List.mem_of_getElem? (i := 1) rfl)
set_option maxRecDepth 100000 in
set_option maxHeartbeats 4000000 in
theorem w_X3_unplug_0 {r0 : Int32} (CX : wk_X p l e R s m args below meth c cells slots Q cX3_unplug 2 RX3 wsX3_unplug D y B Lk A 4 103) (RT : wk_Ri p l e R s m args below meth c cells slots Q cX3_unplug D y B Lk A r0 MM) {v1 : Int32} {M : wk_T} {H : Heap} {locs : List Loc} {ls : Array Slot} (h : f_X3_unplug v1 M = some (r0, MM)) (hl : lv_has ls 2 [(0, .ref (B 9 0 0)), (1, .int v1)]) (hP : wk_H D y B Lk M H) (hS : va_S A s.heap H locs) : W p l e R s m args below meth c H locs cells slots Q (F0 m 0 ls []) := by
  obtain ⟨⟨hx, hb, hml, hown, hts⟩, hK, hI, hL, hA, hfr, hlo, hcs⟩ := id CX
  have q1 := q_X3_unplug hts
  unfold f_X3_unplug at h
  refine lv_aload_n hx hb dX3_unplug_0 rfl (lv_at hl 0 rfl) ?_
  obtain ⟨r1, M2, er1, h⟩ := wk_cl_e h
  refine wk_cVv (As := []) (rest := []) ⟨hx, hb, hml, hown, hts⟩ (m_X3_note l hI hL er1) (cwV 0 hts gX3_unplug_X3_note rfl rfl rfl (by decide +kernel) ⟨Nat.le_trans (by decide) hfr, Nat.le_trans (by decide) hlo⟩) hK hP hS hA (wk_l9 hL 9 (by decide) (by decide)) wk_c9 rfl rfl hl.1 (lv_room (Nat.le_of_ble_eq_true rfl)) hcs dX3_unplug_1 (fun H locs hP hS => ?_)
  refine lv_aload_n hx hb dX3_unplug_4 rfl (lv_at hl 0 rfl) ?_
  refine lv_aload_n hx hb dX3_unplug_5 rfl (lv_at hl 0 rfl) ?_
  refine wk_get (ref := "WokenRooms") (C := RX3) (T := TX3) (N := 5) (ci := 3) (v := .ref (B 0 0 0)) hx hb hts (fun _ h => List.mem_cons_of_mem _ (List.mem_append_left _ (List.mem_append_left _ (List.mem_append_right _ h)))) hown hK hP (wk_l9 hL 9 (by decide) (by decide)) wk_c9 rfl 0 (by decide) q1 rfl rfl dX3_unplug_6 ?_
  refine lv_iload_n hx hb dX3_unplug_9 rfl (lv_at hl 1 rfl) ?_
  obtain ⟨r3, M4, er3, h⟩ := wk_cl_e h
  refine wk_cVi (As := [.int v1]) (rest := [.ref (B 9 0 0)]) ⟨hx, hb, hml, hown, hts⟩ (m_X0_plugOut l hI hL (by decide) er3) (cwV 1 hts gX3_unplug_X0_plugOut rfl rfl rfl (by decide +kernel) ⟨Nat.le_trans (by decide) hfr, Nat.le_trans (by decide) hlo⟩) hK hP hS hA (wk_l0 hL (by decide) 0 (by decide)) wk_c0 rfl rfl hl.1 (lv_room (Nat.le_of_ble_eq_true rfl)) hcs dX3_unplug_10 (fun H locs hP hS => ?_)
  obtain ⟨r5, M6, er5, h⟩ := wk_cl_e h
  refine wk_cVi (As := [.int r3]) (rest := []) ⟨hx, hb, hml, hown, hts⟩ (m_X3_kept l hI hL er5) (cwV 1 hts gX3_unplug_X3_kept rfl rfl rfl (by decide +kernel) ⟨Nat.le_trans (by decide) hfr, Nat.le_trans (by decide) hlo⟩) hK hP hS hA (wk_l9 hL 9 (by decide) (by decide)) wk_c9 rfl rfl hl.1 (lv_room (Nat.le_of_ble_eq_true rfl)) hcs dX3_unplug_13 (fun H locs hP hS => ?_)
  exact RT _ _ _ _ _ _ h hP hS dX3_unplug_16
set_option maxRecDepth 100000 in
set_option maxHeartbeats 4000000 in
theorem m_X3_unplug (l : Launch) {D : va_G} {y : Nat → ClassId} {B : Nat → Nat → Nat → Nat} {Lk : Nat → Nat → Nat → Prop} (hI : wk_I B Lk) (hL : wk_L Lk) {v1 : Int32} {M : wk_T} {r0 : Int32} {MM : wk_T} (hf : f_X3_unplug v1 M = some (r0, MM)) : wk_Mi l yX3_unplug wsX3_unplug 4 103 D y B Lk [.ref (B 9 0 0), .int v1] M r0 MM :=
  wk_ofI (own := RX3) (bytes := cX3_unplug) (maxL := 2) (ret := some .int) (by decide +kernel) rfl rfl (Or.inl rfl) (Nat.le_of_ble_eq_true rfl) hI hL (fun p e s m args below meth c ls CX RTi RTz hl hP hS => w_X3_unplug_0 CX (RTi rfl) hf hl hP hS)
def f_X3_limit (v1 : Int32) (v2 : Int32) (M : wk_T) : Option (Int32 × wk_T) := wk_cl (f_X3_note M) (fun _ M2 => wk_cl (f_X0_setLimit 0 v1 v2 M2) (fun r3 M4 => wk_cl (f_X3_kept r3 M4) (fun r5 M6 => (some (r5, M6)))))
set_option maxRecDepth 20000 in
theorem q_X3_limit {s : State} {args : Array Value} (hts : ∀ w ∈ wsX3_limit, w.before args s = true) : (Cond.fieldLink RX3 10 "WokenRooms" "chip" "LWokenRooms$Chip;").before args s = true := hts _ (List.mem_of_getElem? (i := 1) rfl)
set_option maxRecDepth 100000 in
set_option maxHeartbeats 4000000 in
theorem w_X3_limit_0 {r0 : Int32} (CX : wk_X p l e R s m args below meth c cells slots Q cX3_limit 3 RX3 wsX3_limit D y B Lk A 4 103) (RT : wk_Ri p l e R s m args below meth c cells slots Q cX3_limit D y B Lk A r0 MM) {v1 : Int32} {v2 : Int32} {M : wk_T} {H : Heap} {locs : List Loc} {ls : Array Slot} (h : f_X3_limit v1 v2 M = some (r0, MM)) (hl : lv_has ls 3 [(0, .ref (B 9 0 0)), (1, .int v1), (2, .int v2)]) (hP : wk_H D y B Lk M H) (hS : va_S A s.heap H locs) : W p l e R s m args below meth c H locs cells slots Q (F0 m 0 ls []) := by
  obtain ⟨⟨hx, hb, hml, hown, hts⟩, hK, hI, hL, hA, hfr, hlo, hcs⟩ := id CX
  have q1 := q_X3_limit hts
  unfold f_X3_limit at h
  refine lv_aload_n hx hb dX3_limit_0 rfl (lv_at hl 0 rfl) ?_
  obtain ⟨r1, M2, er1, h⟩ := wk_cl_e h
  refine wk_cVv (As := []) (rest := []) ⟨hx, hb, hml, hown, hts⟩ (m_X3_note l hI hL er1) (cwV 0 hts gX3_limit_X3_note rfl rfl rfl (by decide +kernel) ⟨Nat.le_trans (by decide) hfr, Nat.le_trans (by decide) hlo⟩) hK hP hS hA (wk_l9 hL 9 (by decide) (by decide)) wk_c9 rfl rfl hl.1 (lv_room (Nat.le_of_ble_eq_true rfl)) hcs dX3_limit_1 (fun H locs hP hS => ?_)
  refine lv_aload_n hx hb dX3_limit_4 rfl (lv_at hl 0 rfl) ?_
  refine lv_aload_n hx hb dX3_limit_5 rfl (lv_at hl 0 rfl) ?_
  refine wk_get (ref := "WokenRooms") (C := RX3) (T := TX3) (N := 5) (ci := 3) (v := .ref (B 0 0 0)) hx hb hts (fun _ h => List.mem_cons_of_mem _ (List.mem_append_left _ (List.mem_append_left _ (List.mem_append_right _ h)))) hown hK hP (wk_l9 hL 9 (by decide) (by decide)) wk_c9 rfl 0 (by decide) q1 rfl rfl dX3_limit_6 ?_
  refine lv_iload_n hx hb dX3_limit_9 rfl (lv_at hl 1 rfl) ?_
  refine lv_iload_n hx hb dX3_limit_10 rfl (lv_at hl 2 rfl) ?_
  obtain ⟨r3, M4, er3, h⟩ := wk_cl_e h
  refine wk_cVi (As := [.int v1, .int v2]) (rest := [.ref (B 9 0 0)]) ⟨hx, hb, hml, hown, hts⟩ (m_X0_setLimit l hI hL (by decide) er3) (cwV 2 hts gX3_limit_X0_setLimit rfl rfl rfl (by decide +kernel) ⟨Nat.le_trans (by decide) hfr, Nat.le_trans (by decide) hlo⟩) hK hP hS hA (wk_l0 hL (by decide) 0 (by decide)) wk_c0 rfl rfl hl.1 (lv_room (Nat.le_of_ble_eq_true rfl)) hcs dX3_limit_11 (fun H locs hP hS => ?_)
  obtain ⟨r5, M6, er5, h⟩ := wk_cl_e h
  refine wk_cVi (As := [.int r3]) (rest := []) ⟨hx, hb, hml, hown, hts⟩ (m_X3_kept l hI hL er5) (cwV 1 hts gX3_limit_X3_kept rfl rfl rfl (by decide +kernel) ⟨Nat.le_trans (by decide) hfr, Nat.le_trans (by decide) hlo⟩) hK hP hS hA (wk_l9 hL 9 (by decide) (by decide)) wk_c9 rfl rfl hl.1 (lv_room (Nat.le_of_ble_eq_true rfl)) hcs dX3_limit_14 (fun H locs hP hS => ?_)
  exact RT _ _ _ _ _ _ h hP hS dX3_limit_17
set_option maxRecDepth 100000 in
set_option maxHeartbeats 4000000 in
theorem m_X3_limit (l : Launch) {D : va_G} {y : Nat → ClassId} {B : Nat → Nat → Nat → Nat} {Lk : Nat → Nat → Nat → Prop} (hI : wk_I B Lk) (hL : wk_L Lk) {v1 : Int32} {v2 : Int32} {M : wk_T} {r0 : Int32} {MM : wk_T} (hf : f_X3_limit v1 v2 M = some (r0, MM)) : wk_Mi l yX3_limit wsX3_limit 4 103 D y B Lk [.ref (B 9 0 0), .int v1, .int v2] M r0 MM :=
  wk_ofI (own := RX3) (bytes := cX3_limit) (maxL := 3) (ret := some .int) (by decide +kernel) rfl rfl (Or.inl rfl) (Nat.le_of_ble_eq_true rfl) hI hL (fun p e s m args below meth c ls CX RTi RTz hl hP hS => w_X3_limit_0 CX (RTi rfl) hf hl hP hS)
def f_X3_policy (v1 : Int32) (v2 : Int32) (v3 : Int32) (M : wk_T) : Option (Int32 × wk_T) := wk_cl (f_X3_note M) (fun _ M2 => wk_cl (f_X0_setPolicy 0 v1 v2 v3 M2) (fun r3 M4 => wk_cl (f_X3_kept r3 M4) (fun r5 M6 => (some (r5, M6)))))
set_option maxRecDepth 20000 in
theorem q_X3_policy {s : State} {args : Array Value} (hts : ∀ w ∈ wsX3_policy, w.before args s = true) : (Cond.fieldLink RX3 10 "WokenRooms" "chip" "LWokenRooms$Chip;").before args s = true := hts _ (List.mem_of_getElem? (i := 1) rfl)
set_option maxRecDepth 100000 in
set_option maxHeartbeats 4000000 in
theorem w_X3_policy_0 {r0 : Int32} (CX : wk_X p l e R s m args below meth c cells slots Q cX3_policy 4 RX3 wsX3_policy D y B Lk A 4 103) (RT : wk_Ri p l e R s m args below meth c cells slots Q cX3_policy D y B Lk A r0 MM) {v1 : Int32} {v2 : Int32} {v3 : Int32} {M : wk_T} {H : Heap} {locs : List Loc} {ls : Array Slot} (h : f_X3_policy v1 v2 v3 M = some (r0, MM)) (hl : lv_has ls 4 [(0, .ref (B 9 0 0)), (1, .int v1), (2, .int v2), (3, .int v3)]) (hP : wk_H D y B Lk M H) (hS : va_S A s.heap H locs) : W p l e R s m args below meth c H locs cells slots Q (F0 m 0 ls []) := by
  obtain ⟨⟨hx, hb, hml, hown, hts⟩, hK, hI, hL, hA, hfr, hlo, hcs⟩ := id CX
  have q1 := q_X3_policy hts
  unfold f_X3_policy at h
  refine lv_aload_n hx hb dX3_policy_0 rfl (lv_at hl 0 rfl) ?_
  obtain ⟨r1, M2, er1, h⟩ := wk_cl_e h
  refine wk_cVv (As := []) (rest := []) ⟨hx, hb, hml, hown, hts⟩ (m_X3_note l hI hL er1) (cwV 0 hts gX3_policy_X3_note rfl rfl rfl (by decide +kernel) ⟨Nat.le_trans (by decide) hfr, Nat.le_trans (by decide) hlo⟩) hK hP hS hA (wk_l9 hL 9 (by decide) (by decide)) wk_c9 rfl rfl hl.1 (lv_room (Nat.le_of_ble_eq_true rfl)) hcs dX3_policy_1 (fun H locs hP hS => ?_)
  refine lv_aload_n hx hb dX3_policy_4 rfl (lv_at hl 0 rfl) ?_
  refine lv_aload_n hx hb dX3_policy_5 rfl (lv_at hl 0 rfl) ?_
  refine wk_get (ref := "WokenRooms") (C := RX3) (T := TX3) (N := 5) (ci := 3) (v := .ref (B 0 0 0)) hx hb hts (fun _ h => List.mem_cons_of_mem _ (List.mem_append_left _ (List.mem_append_left _ (List.mem_append_right _ h)))) hown hK hP (wk_l9 hL 9 (by decide) (by decide)) wk_c9 rfl 0 (by decide) q1 rfl rfl dX3_policy_6 ?_
  refine lv_iload_n hx hb dX3_policy_9 rfl (lv_at hl 1 rfl) ?_
  refine lv_iload_n hx hb dX3_policy_10 rfl (lv_at hl 2 rfl) ?_
  refine lv_iload_n hx hb dX3_policy_11 rfl (lv_at hl 3 rfl) ?_
  obtain ⟨r3, M4, er3, h⟩ := wk_cl_e h
  refine wk_cVi (As := [.int v1, .int v2, .int v3]) (rest := [.ref (B 9 0 0)]) ⟨hx, hb, hml, hown, hts⟩ (m_X0_setPolicy l hI hL (by decide) er3) (cwV 3 hts gX3_policy_X0_setPolicy rfl rfl rfl (by decide +kernel) ⟨Nat.le_trans (by decide) hfr, Nat.le_trans (by decide) hlo⟩) hK hP hS hA (wk_l0 hL (by decide) 0 (by decide)) wk_c0 rfl rfl hl.1 (lv_room (Nat.le_of_ble_eq_true rfl)) hcs dX3_policy_12 (fun H locs hP hS => ?_)
  obtain ⟨r5, M6, er5, h⟩ := wk_cl_e h
  refine wk_cVi (As := [.int r3]) (rest := []) ⟨hx, hb, hml, hown, hts⟩ (m_X3_kept l hI hL er5) (cwV 1 hts gX3_policy_X3_kept rfl rfl rfl (by decide +kernel) ⟨Nat.le_trans (by decide) hfr, Nat.le_trans (by decide) hlo⟩) hK hP hS hA (wk_l9 hL 9 (by decide) (by decide)) wk_c9 rfl rfl hl.1 (lv_room (Nat.le_of_ble_eq_true rfl)) hcs dX3_policy_15 (fun H locs hP hS => ?_)
  exact RT _ _ _ _ _ _ h hP hS dX3_policy_18
set_option maxRecDepth 100000 in
set_option maxHeartbeats 4000000 in
theorem m_X3_policy (l : Launch) {D : va_G} {y : Nat → ClassId} {B : Nat → Nat → Nat → Nat} {Lk : Nat → Nat → Nat → Prop} (hI : wk_I B Lk) (hL : wk_L Lk) {v1 : Int32} {v2 : Int32} {v3 : Int32} {M : wk_T} {r0 : Int32} {MM : wk_T} (hf : f_X3_policy v1 v2 v3 M = some (r0, MM)) : wk_Mi l yX3_policy wsX3_policy 4 103 D y B Lk [.ref (B 9 0 0), .int v1, .int v2, .int v3] M r0 MM :=
  wk_ofI (own := RX3) (bytes := cX3_policy) (maxL := 4) (ret := some .int) (by decide +kernel) rfl rfl (Or.inl rfl) (Nat.le_of_ble_eq_true rfl) hI hL (fun p e s m args below meth c ls CX RTi RTz hl hP hS => w_X3_policy_0 CX (RTi rfl) hf hl hP hS)
def f_X3_roomOf (v1 : Int32) (v2 : Int32) (M : wk_T) : Option (Int32 × wk_T) := wk_cl (f_X0_hasRoom 0 v1 M) (fun r1 M2 => (if r1 = 0 then (some ((-1), M2)) else wk_cl (f_X3_outside v2 0 13 M2) (fun r4 M5 => (if r4 = 0 then (if v2 = 8 then wk_cl (f_X0_usesOf 0 v1 M5) (fun r15 M16 => (some (r15, M16))) else (if v2 = 12 then wk_cl (f_X0_isCalled 0 v1 M5) (fun r12 M13 => (if r12 = 0 then (some (0, M13)) else (some (1, M13)))) else wk_gd (¬ (v1 < 0 ∨ 8 ≤ v1.toNatClampNeg)) (wk_cl (f_X2_tell 0 v1.toNatClampNeg v2 M5) (fun r10 M11 => (some (r10, M11)))))) else (some ((-1), M5))))))
set_option maxRecDepth 20000 in
theorem q_X3_roomOf {s : State} {args : Array Value} (hts : ∀ w ∈ wsX3_roomOf, w.before args s = true) : (Cond.fieldLink RX3 10 "WokenRooms" "chip" "LWokenRooms$Chip;").before args s = true ∧ (Cond.fieldLink RX3 41 "WokenRooms$Chip" "rooms" "[LWokenRooms$Room;").before args s = true := ⟨hts _ (List.mem_of_getElem? (i := 1) rfl), hts _ (List.mem_of_getElem? (i := 2) rfl)⟩
set_option maxRecDepth 100000 in
set_option maxHeartbeats 4000000 in
theorem w_X3_roomOf_0 {r0 : Int32} (CX : wk_X p l e R s m args below meth c cells slots Q cX3_roomOf 3 RX3 wsX3_roomOf D y B Lk A 2 48) (RT : wk_Ri p l e R s m args below meth c cells slots Q cX3_roomOf D y B Lk A r0 MM) {v1 : Int32} {v2 : Int32} {M : wk_T} {H : Heap} {locs : List Loc} {ls : Array Slot} (h : f_X3_roomOf v1 v2 M = some (r0, MM)) (hl : lv_has ls 3 [(0, .ref (B 9 0 0)), (1, .int v1), (2, .int v2)]) (hP : wk_H D y B Lk M H) (hS : va_S A s.heap H locs) : W p l e R s m args below meth c H locs cells slots Q (F0 m 0 ls []) := by
  obtain ⟨⟨hx, hb, hml, hown, hts⟩, hK, hI, hL, hA, hfr, hlo, hcs⟩ := id CX
  obtain ⟨q1, q2⟩ := q_X3_roomOf hts
  unfold f_X3_roomOf at h
  refine lv_aload_n hx hb dX3_roomOf_0 rfl (lv_at hl 0 rfl) ?_
  refine wk_get (ref := "WokenRooms") (C := RX3) (T := TX3) (N := 5) (ci := 3) (v := .ref (B 0 0 0)) hx hb hts (fun _ h => List.mem_cons_of_mem _ (List.mem_append_left _ (List.mem_append_left _ (List.mem_append_right _ h)))) hown hK hP (wk_l9 hL 9 (by decide) (by decide)) wk_c9 rfl 0 (by decide) q1 rfl rfl dX3_roomOf_1 ?_
  refine lv_iload_n hx hb dX3_roomOf_4 rfl (lv_at hl 1 rfl) ?_
  obtain ⟨r1, M2, er1, h⟩ := wk_cl_e h
  refine wk_cVi (As := [.int v1]) (rest := []) ⟨hx, hb, hml, hown, hts⟩ (m_X0_hasRoom l hI hL (by decide) er1) (cwV 1 hts gX3_roomOf_X0_hasRoom rfl rfl rfl (by decide +kernel) ⟨Nat.le_trans (by decide) hfr, Nat.le_trans (by decide) hlo⟩) hK hP hS hA (wk_l0 hL (by decide) 0 (by decide)) wk_c0 rfl rfl hl.1 (lv_room (Nat.le_of_ble_eq_true rfl)) hcs dX3_roomOf_5 (fun H locs hP hS => ?_)
  refine lv_if_eq (tgt := 21) hx hb dX3_roomOf_8 (by decide) (fun g3 => ?_) (fun g3 => ?_)
  · have h := wk_p g3 h
    refine lv_iconst (v := (-1)) hx hb dX3_roomOf_21 (by decide) ?_
    exact RT _ _ _ _ _ _ h hP hS dX3_roomOf_22
  · have h := wk_n g3 h
    refine lv_iload_n hx hb dX3_roomOf_11 rfl (lv_at hl 2 rfl) ?_
    refine lv_iconst (v := 0) hx hb dX3_roomOf_12 (by decide) ?_
    refine lv_bipush (v := 13) hx hb dX3_roomOf_13 (by decide) ?_
    obtain ⟨r4, M5, er4, h⟩ := wk_cl_e h
    refine wk_cSi (As := [.int v2, .int 0, .int 13]) (rest := []) ⟨hx, hb, hml, hown, hts⟩ (m_X3_outside l hI hL er4) (va_cwS 3 hts gX3_roomOf_X3_outside rfl rfl rfl (by decide +kernel) ⟨Nat.le_trans (by decide) hfr, Nat.le_trans (by decide) hlo⟩) hK hP hS hA rfl hl.1 (lv_room (Nat.le_of_ble_eq_true rfl)) hcs dX3_roomOf_15 (fun H locs hP hS => ?_)
    refine lv_if_eq (tgt := 23) hx hb dX3_roomOf_18 (by decide) (fun g6 => ?_) (fun g6 => ?_)
    · have h := wk_p g6 h
      refine lv_iload_n hx hb dX3_roomOf_23 rfl (lv_at hl 2 rfl) ?_
      refine lv_bipush (v := 8) hx hb dX3_roomOf_24 (by decide) ?_
      refine lv_icmp_ne (tgt := 38) hx hb dX3_roomOf_26 (by decide) (fun g7 => ?_) (fun g7 => ?_)
      · have h := wk_n g7 h
        refine lv_iload_n hx hb dX3_roomOf_38 rfl (lv_at hl 2 rfl) ?_
        refine lv_bipush (v := 12) hx hb dX3_roomOf_39 (by decide) ?_
        refine lv_icmp_ne (tgt := 61) hx hb dX3_roomOf_41 (by decide) (fun g8 => ?_) (fun g8 => ?_)
        · have h := wk_n g8 h
          refine lv_aload_n hx hb dX3_roomOf_61 rfl (lv_at hl 0 rfl) ?_
          refine wk_get (ref := "WokenRooms") (C := RX3) (T := TX3) (N := 5) (ci := 3) (v := .ref (B 0 0 0)) hx hb hts (fun _ h => List.mem_cons_of_mem _ (List.mem_append_left _ (List.mem_append_left _ (List.mem_append_right _ h)))) hown hK hP (wk_l9 hL 9 (by decide) (by decide)) wk_c9 rfl 0 (by decide) q1 rfl rfl dX3_roomOf_62 ?_
          refine wk_get (ref := "WokenRooms$Chip") (C := RX0) (T := TX0) (N := 8) (ci := 0) (v := .ref (B 1 0 0)) hx hb hts (fun _ h => List.mem_cons_of_mem _ (List.mem_append_left _ (List.mem_append_right _ h))) hown hK hP (wk_l0 hL (by decide) 0 (by decide)) wk_c0 rfl 0 (by decide) q2 rfl rfl dX3_roomOf_65 ?_
          refine lv_iload_n hx hb dX3_roomOf_68 rfl (lv_at hl 1 rfl) ?_
          obtain ⟨g9, h⟩ := wk_gd_e h
          refine wk_aaldR (j := v1.toNatClampNeg) hx hb hK hP (wk_l0 hL (by decide) 1 (by decide)) g9 rfl dX3_roomOf_69 ?_
          refine lv_iload_n hx hb dX3_roomOf_70 rfl (lv_at hl 2 rfl) ?_
          obtain ⟨r10, M11, er10, h⟩ := wk_cl_e h
          refine wk_cVi (As := [.int v2]) (rest := []) ⟨hx, hb, hml, hown, hts⟩ (m_X2_tell l hI hL (by decide) (wk_ix g9) er10) (cwV 1 hts gX3_roomOf_X2_tell rfl rfl rfl (by decide +kernel) ⟨Nat.le_trans (by decide) hfr, Nat.le_trans (by decide) hlo⟩) hK hP hS hA (wk_l6 hL (by decide) (wk_ix g9) 6 (by decide) (by decide)) wk_c6 rfl rfl hl.1 (lv_room (Nat.le_of_ble_eq_true rfl)) hcs dX3_roomOf_71 (fun H locs hP hS => ?_)
          exact RT _ _ _ _ _ _ h hP hS dX3_roomOf_74
        · have h := wk_p g8 h
          refine lv_aload_n hx hb dX3_roomOf_44 rfl (lv_at hl 0 rfl) ?_
          refine wk_get (ref := "WokenRooms") (C := RX3) (T := TX3) (N := 5) (ci := 3) (v := .ref (B 0 0 0)) hx hb hts (fun _ h => List.mem_cons_of_mem _ (List.mem_append_left _ (List.mem_append_left _ (List.mem_append_right _ h)))) hown hK hP (wk_l9 hL 9 (by decide) (by decide)) wk_c9 rfl 0 (by decide) q1 rfl rfl dX3_roomOf_45 ?_
          refine lv_iload_n hx hb dX3_roomOf_48 rfl (lv_at hl 1 rfl) ?_
          obtain ⟨r12, M13, er12, h⟩ := wk_cl_e h
          refine wk_cVi (As := [.int v1]) (rest := []) ⟨hx, hb, hml, hown, hts⟩ (m_X0_isCalled l hI hL (by decide) er12) (cwV 1 hts gX3_roomOf_X0_isCalled rfl rfl rfl (by decide +kernel) ⟨Nat.le_trans (by decide) hfr, Nat.le_trans (by decide) hlo⟩) hK hP hS hA (wk_l0 hL (by decide) 0 (by decide)) wk_c0 rfl rfl hl.1 (lv_room (Nat.le_of_ble_eq_true rfl)) hcs dX3_roomOf_49 (fun H locs hP hS => ?_)
          refine lv_if_eq (tgt := 59) hx hb dX3_roomOf_52 (by decide) (fun g14 => ?_) (fun g14 => ?_)
          · have h := wk_p g14 h
            refine lv_iconst (v := 0) hx hb dX3_roomOf_59 (by decide) ?_
            exact RT _ _ _ _ _ _ h hP hS dX3_roomOf_60
          · have h := wk_n g14 h
            refine lv_iconst (v := 1) hx hb dX3_roomOf_55 (by decide) ?_
            refine lv_goto (tgt := 60) hx hb dX3_roomOf_56 (by decide) ?_
            exact RT _ _ _ _ _ _ h hP hS dX3_roomOf_60
      · have h := wk_p g7 h
        refine lv_aload_n hx hb dX3_roomOf_29 rfl (lv_at hl 0 rfl) ?_
        refine wk_get (ref := "WokenRooms") (C := RX3) (T := TX3) (N := 5) (ci := 3) (v := .ref (B 0 0 0)) hx hb hts (fun _ h => List.mem_cons_of_mem _ (List.mem_append_left _ (List.mem_append_left _ (List.mem_append_right _ h)))) hown hK hP (wk_l9 hL 9 (by decide) (by decide)) wk_c9 rfl 0 (by decide) q1 rfl rfl dX3_roomOf_30 ?_
        refine lv_iload_n hx hb dX3_roomOf_33 rfl (lv_at hl 1 rfl) ?_
        obtain ⟨r15, M16, er15, h⟩ := wk_cl_e h
        refine wk_cVi (As := [.int v1]) (rest := []) ⟨hx, hb, hml, hown, hts⟩ (m_X0_usesOf l hI hL (by decide) er15) (cwV 1 hts gX3_roomOf_X0_usesOf rfl rfl rfl (by decide +kernel) ⟨Nat.le_trans (by decide) hfr, Nat.le_trans (by decide) hlo⟩) hK hP hS hA (wk_l0 hL (by decide) 0 (by decide)) wk_c0 rfl rfl hl.1 (lv_room (Nat.le_of_ble_eq_true rfl)) hcs dX3_roomOf_34 (fun H locs hP hS => ?_)
        exact RT _ _ _ _ _ _ h hP hS dX3_roomOf_37
    · have h := wk_n g6 h
      refine lv_iconst (v := (-1)) hx hb dX3_roomOf_21 (by decide) ?_
      exact RT _ _ _ _ _ _ h hP hS dX3_roomOf_22
set_option maxRecDepth 100000 in
set_option maxHeartbeats 4000000 in
theorem m_X3_roomOf (l : Launch) {D : va_G} {y : Nat → ClassId} {B : Nat → Nat → Nat → Nat} {Lk : Nat → Nat → Nat → Prop} (hI : wk_I B Lk) (hL : wk_L Lk) {v1 : Int32} {v2 : Int32} {M : wk_T} {r0 : Int32} {MM : wk_T} (hf : f_X3_roomOf v1 v2 M = some (r0, MM)) : wk_Mi l yX3_roomOf wsX3_roomOf 2 48 D y B Lk [.ref (B 9 0 0), .int v1, .int v2] M r0 MM :=
  wk_ofI (own := RX3) (bytes := cX3_roomOf) (maxL := 3) (ret := some .int) (by decide +kernel) rfl rfl (Or.inl rfl) (Nat.le_of_ble_eq_true rfl) hI hL (fun p e s m args below meth c ls CX RTi RTz hl hP hS => w_X3_roomOf_0 CX (RTi rfl) hf hl hP hS)
def f_X3_costOf (v1 : Int32) (v2 : Int32) (M : wk_T) : Option (Int32 × wk_T) := wk_cl (f_X0_hasRoom 0 v1 M) (fun r1 M2 => (if r1 = 0 then (some ((-1), M2)) else wk_cl (f_X3_outside v2 0 4 M2) (fun r4 M5 => (if r4 = 0 then wk_gd (¬ (v1 < 0 ∨ 8 ≤ v1.toNatClampNeg)) (wk_gd (¬ (v2 < 0 ∨ 5 ≤ v2.toNatClampNeg)) ((some ((M5 7 0 v1.toNatClampNeg (v2.toNatClampNeg)), M5)))) else (some ((-1), M5))))))
set_option maxRecDepth 20000 in
theorem q_X3_costOf {s : State} {args : Array Value} (hts : ∀ w ∈ wsX3_costOf, w.before args s = true) : (Cond.fieldLink RX3 10 "WokenRooms" "chip" "LWokenRooms$Chip;").before args s = true ∧ (Cond.fieldLink RX3 41 "WokenRooms$Chip" "rooms" "[LWokenRooms$Room;").before args s = true ∧ (Cond.fieldLink RX3 51 "WokenRooms$Room" "costs" "[I").before args s = true := ⟨hts _ (List.mem_of_getElem? (i := 1) rfl), hts _ (List.mem_of_getElem? (i := 2) rfl), hts _ (List.mem_of_getElem? (i := 3) rfl)⟩
set_option maxRecDepth 100000 in
set_option maxHeartbeats 4000000 in
theorem w_X3_costOf_0 {r0 : Int32} (CX : wk_X p l e R s m args below meth c cells slots Q cX3_costOf 3 RX3 wsX3_costOf D y B Lk A 1 22) (RT : wk_Ri p l e R s m args below meth c cells slots Q cX3_costOf D y B Lk A r0 MM) {v1 : Int32} {v2 : Int32} {M : wk_T} {H : Heap} {locs : List Loc} {ls : Array Slot} (h : f_X3_costOf v1 v2 M = some (r0, MM)) (hl : lv_has ls 3 [(0, .ref (B 9 0 0)), (1, .int v1), (2, .int v2)]) (hP : wk_H D y B Lk M H) (hS : va_S A s.heap H locs) : W p l e R s m args below meth c H locs cells slots Q (F0 m 0 ls []) := by
  obtain ⟨⟨hx, hb, hml, hown, hts⟩, hK, hI, hL, hA, hfr, hlo, hcs⟩ := id CX
  obtain ⟨q1, q2, q3⟩ := q_X3_costOf hts
  unfold f_X3_costOf at h
  refine lv_aload_n hx hb dX3_costOf_0 rfl (lv_at hl 0 rfl) ?_
  refine wk_get (ref := "WokenRooms") (C := RX3) (T := TX3) (N := 5) (ci := 3) (v := .ref (B 0 0 0)) hx hb hts (fun _ h => List.mem_cons_of_mem _ (List.mem_append_left _ (List.mem_append_left _ (List.mem_append_right _ h)))) hown hK hP (wk_l9 hL 9 (by decide) (by decide)) wk_c9 rfl 0 (by decide) q1 rfl rfl dX3_costOf_1 ?_
  refine lv_iload_n hx hb dX3_costOf_4 rfl (lv_at hl 1 rfl) ?_
  obtain ⟨r1, M2, er1, h⟩ := wk_cl_e h
  refine wk_cVi (As := [.int v1]) (rest := []) ⟨hx, hb, hml, hown, hts⟩ (m_X0_hasRoom l hI hL (by decide) er1) (cwV 1 hts gX3_costOf_X0_hasRoom rfl rfl rfl (by decide +kernel) ⟨Nat.le_trans (by decide) hfr, Nat.le_trans (by decide) hlo⟩) hK hP hS hA (wk_l0 hL (by decide) 0 (by decide)) wk_c0 rfl rfl hl.1 (lv_room (Nat.le_of_ble_eq_true rfl)) hcs dX3_costOf_5 (fun H locs hP hS => ?_)
  refine lv_if_eq (tgt := 20) hx hb dX3_costOf_8 (by decide) (fun g3 => ?_) (fun g3 => ?_)
  · have h := wk_p g3 h
    refine lv_iconst (v := (-1)) hx hb dX3_costOf_20 (by decide) ?_
    exact RT _ _ _ _ _ _ h hP hS dX3_costOf_21
  · have h := wk_n g3 h
    refine lv_iload_n hx hb dX3_costOf_11 rfl (lv_at hl 2 rfl) ?_
    refine lv_iconst (v := 0) hx hb dX3_costOf_12 (by decide) ?_
    refine lv_iconst (v := 4) hx hb dX3_costOf_13 (by decide) ?_
    obtain ⟨r4, M5, er4, h⟩ := wk_cl_e h
    refine wk_cSi (As := [.int v2, .int 0, .int 4]) (rest := []) ⟨hx, hb, hml, hown, hts⟩ (m_X3_outside l hI hL er4) (va_cwS 3 hts gX3_costOf_X3_outside rfl rfl rfl (by decide +kernel) ⟨Nat.le_trans (by decide) hfr, Nat.le_trans (by decide) hlo⟩) hK hP hS hA rfl hl.1 (lv_room (Nat.le_of_ble_eq_true rfl)) hcs dX3_costOf_14 (fun H locs hP hS => ?_)
    refine lv_if_eq (tgt := 22) hx hb dX3_costOf_17 (by decide) (fun g6 => ?_) (fun g6 => ?_)
    · have h := wk_p g6 h
      refine lv_aload_n hx hb dX3_costOf_22 rfl (lv_at hl 0 rfl) ?_
      refine wk_get (ref := "WokenRooms") (C := RX3) (T := TX3) (N := 5) (ci := 3) (v := .ref (B 0 0 0)) hx hb hts (fun _ h => List.mem_cons_of_mem _ (List.mem_append_left _ (List.mem_append_left _ (List.mem_append_right _ h)))) hown hK hP (wk_l9 hL 9 (by decide) (by decide)) wk_c9 rfl 0 (by decide) q1 rfl rfl dX3_costOf_23 ?_
      refine wk_get (ref := "WokenRooms$Chip") (C := RX0) (T := TX0) (N := 8) (ci := 0) (v := .ref (B 1 0 0)) hx hb hts (fun _ h => List.mem_cons_of_mem _ (List.mem_append_left _ (List.mem_append_right _ h))) hown hK hP (wk_l0 hL (by decide) 0 (by decide)) wk_c0 rfl 0 (by decide) q2 rfl rfl dX3_costOf_26 ?_
      refine lv_iload_n hx hb dX3_costOf_29 rfl (lv_at hl 1 rfl) ?_
      obtain ⟨g7, h⟩ := wk_gd_e h
      refine wk_aaldR (j := v1.toNatClampNeg) hx hb hK hP (wk_l0 hL (by decide) 1 (by decide)) g7 rfl dX3_costOf_30 ?_
      refine wk_get (ref := "WokenRooms$Room") (C := RX2) (T := TX2) (N := 15) (ci := 2) (v := .ref (B 7 0 v1.toNatClampNeg)) hx hb hts (fun _ h => List.mem_cons_of_mem _ (List.mem_append_right _ h)) hown hK hP (wk_l6 hL (by decide) (wk_ix g7) 6 (by decide) (by decide)) wk_c6 rfl 0 (by decide) q3 rfl rfl dX3_costOf_31 ?_
      refine lv_iload_n hx hb dX3_costOf_34 rfl (lv_at hl 2 rfl) ?_
      obtain ⟨g8, h⟩ := wk_gd_e h
      refine wk_iald (j := v2.toNatClampNeg) hx hb hK hP (wk_l6 hL (by decide) (wk_ix g7) 7 (by decide) (by decide)) wk_c7 g8 rfl dX3_costOf_35 ?_
      exact RT _ _ _ _ _ _ h hP hS dX3_costOf_36
    · have h := wk_n g6 h
      refine lv_iconst (v := (-1)) hx hb dX3_costOf_20 (by decide) ?_
      exact RT _ _ _ _ _ _ h hP hS dX3_costOf_21
set_option maxRecDepth 100000 in
set_option maxHeartbeats 4000000 in
theorem m_X3_costOf (l : Launch) {D : va_G} {y : Nat → ClassId} {B : Nat → Nat → Nat → Nat} {Lk : Nat → Nat → Nat → Prop} (hI : wk_I B Lk) (hL : wk_L Lk) {v1 : Int32} {v2 : Int32} {M : wk_T} {r0 : Int32} {MM : wk_T} (hf : f_X3_costOf v1 v2 M = some (r0, MM)) : wk_Mi l yX3_costOf wsX3_costOf 1 22 D y B Lk [.ref (B 9 0 0), .int v1, .int v2] M r0 MM :=
  wk_ofI (own := RX3) (bytes := cX3_costOf) (maxL := 3) (ret := some .int) (by decide +kernel) rfl rfl (Or.inl rfl) (Nat.le_of_ble_eq_true rfl) hI hL (fun p e s m args below meth c ls CX RTi RTz hl hP hS => w_X3_costOf_0 CX (RTi rfl) hf hl hP hS)
def f_X3_pluggedAt (v1 : Int32) (v2 : Int32) (M : wk_T) : Option (Int32 × wk_T) := wk_cl (f_X3_outside v1 0 1 M) (fun r1 M2 => (if r1 = 0 then (if 0 ≤ v2 then wk_cl (f_X0_roomOnRail 0 v1 v2 M2) (fun r5 M6 => (some (r5, M6))) else (some ((-1), M2))) else (some ((-1), M2))))
set_option maxRecDepth 20000 in
theorem q_X3_pluggedAt {s : State} {args : Array Value} (hts : ∀ w ∈ wsX3_pluggedAt, w.before args s = true) : (Cond.fieldLink RX3 10 "WokenRooms" "chip" "LWokenRooms$Chip;").before args s = true := hts _ (List.mem_of_getElem? (i := 1) rfl)
set_option maxRecDepth 100000 in
set_option maxHeartbeats 4000000 in
theorem w_X3_pluggedAt_0 {r0 : Int32} (CX : wk_X p l e R s m args below meth c cells slots Q cX3_pluggedAt 3 RX3 wsX3_pluggedAt D y B Lk A 1 24) (RT : wk_Ri p l e R s m args below meth c cells slots Q cX3_pluggedAt D y B Lk A r0 MM) {v1 : Int32} {v2 : Int32} {M : wk_T} {H : Heap} {locs : List Loc} {ls : Array Slot} (h : f_X3_pluggedAt v1 v2 M = some (r0, MM)) (hl : lv_has ls 3 [(0, .ref (B 9 0 0)), (1, .int v1), (2, .int v2)]) (hP : wk_H D y B Lk M H) (hS : va_S A s.heap H locs) : W p l e R s m args below meth c H locs cells slots Q (F0 m 0 ls []) := by
  obtain ⟨⟨hx, hb, hml, hown, hts⟩, hK, hI, hL, hA, hfr, hlo, hcs⟩ := id CX
  have q1 := q_X3_pluggedAt hts
  unfold f_X3_pluggedAt at h
  refine lv_iload_n hx hb dX3_pluggedAt_0 rfl (lv_at hl 1 rfl) ?_
  refine lv_iconst (v := 0) hx hb dX3_pluggedAt_1 (by decide) ?_
  refine lv_iconst (v := 1) hx hb dX3_pluggedAt_2 (by decide) ?_
  obtain ⟨r1, M2, er1, h⟩ := wk_cl_e h
  refine wk_cSi (As := [.int v1, .int 0, .int 1]) (rest := []) ⟨hx, hb, hml, hown, hts⟩ (m_X3_outside l hI hL er1) (va_cwS 3 hts gX3_pluggedAt_X3_outside rfl rfl rfl (by decide +kernel) ⟨Nat.le_trans (by decide) hfr, Nat.le_trans (by decide) hlo⟩) hK hP hS hA rfl hl.1 (lv_room (Nat.le_of_ble_eq_true rfl)) hcs dX3_pluggedAt_3 (fun H locs hP hS => ?_)
  refine lv_if_ne (tgt := 13) hx hb dX3_pluggedAt_6 (by decide) (fun g3 => ?_) (fun g3 => ?_)
  · have h := wk_n g3 h
    refine lv_iconst (v := (-1)) hx hb dX3_pluggedAt_13 (by decide) ?_
    exact RT _ _ _ _ _ _ h hP hS dX3_pluggedAt_14
  · have h := wk_p g3 h
    refine lv_iload_n hx hb dX3_pluggedAt_9 rfl (lv_at hl 2 rfl) ?_
    refine lv_if_ge (tgt := 15) hx hb dX3_pluggedAt_10 (by decide) (fun g4 => ?_) (fun g4 => ?_)
    · have h := wk_p g4 h
      refine lv_aload_n hx hb dX3_pluggedAt_15 rfl (lv_at hl 0 rfl) ?_
      refine wk_get (ref := "WokenRooms") (C := RX3) (T := TX3) (N := 5) (ci := 3) (v := .ref (B 0 0 0)) hx hb hts (fun _ h => List.mem_cons_of_mem _ (List.mem_append_left _ (List.mem_append_left _ (List.mem_append_right _ h)))) hown hK hP (wk_l9 hL 9 (by decide) (by decide)) wk_c9 rfl 0 (by decide) q1 rfl rfl dX3_pluggedAt_16 ?_
      refine lv_iload_n hx hb dX3_pluggedAt_19 rfl (lv_at hl 1 rfl) ?_
      refine lv_iload_n hx hb dX3_pluggedAt_20 rfl (lv_at hl 2 rfl) ?_
      obtain ⟨r5, M6, er5, h⟩ := wk_cl_e h
      refine wk_cVi (As := [.int v1, .int v2]) (rest := []) ⟨hx, hb, hml, hown, hts⟩ (m_X0_roomOnRail l hI hL (by decide) er5) (cwV 2 hts gX3_pluggedAt_X0_roomOnRail rfl rfl rfl (by decide +kernel) ⟨Nat.le_trans (by decide) hfr, Nat.le_trans (by decide) hlo⟩) hK hP hS hA (wk_l0 hL (by decide) 0 (by decide)) wk_c0 rfl rfl hl.1 (lv_room (Nat.le_of_ble_eq_true rfl)) hcs dX3_pluggedAt_21 (fun H locs hP hS => ?_)
      exact RT _ _ _ _ _ _ h hP hS dX3_pluggedAt_24
    · have h := wk_n g4 h
      refine lv_iconst (v := (-1)) hx hb dX3_pluggedAt_13 (by decide) ?_
      exact RT _ _ _ _ _ _ h hP hS dX3_pluggedAt_14
set_option maxRecDepth 100000 in
set_option maxHeartbeats 4000000 in
theorem m_X3_pluggedAt (l : Launch) {D : va_G} {y : Nat → ClassId} {B : Nat → Nat → Nat → Nat} {Lk : Nat → Nat → Nat → Prop} (hI : wk_I B Lk) (hL : wk_L Lk) {v1 : Int32} {v2 : Int32} {M : wk_T} {r0 : Int32} {MM : wk_T} (hf : f_X3_pluggedAt v1 v2 M = some (r0, MM)) : wk_Mi l yX3_pluggedAt wsX3_pluggedAt 1 24 D y B Lk [.ref (B 9 0 0), .int v1, .int v2] M r0 MM :=
  wk_ofI (own := RX3) (bytes := cX3_pluggedAt) (maxL := 3) (ret := some .int) (by decide +kernel) rfl rfl (Or.inl rfl) (Nat.le_of_ble_eq_true rfl) hI hL (fun p e s m args below meth c ls CX RTi RTz hl hP hS => w_X3_pluggedAt_0 CX (RTi rfl) hf hl hP hS)
def f_X3_use (v1 : Int32) (v2 : Int32) (v3 : Int32) (M : wk_T) : Option (Int32 × wk_T) := wk_cl (f_X3_note M) (fun _ M2 => wk_cl (f_X0_planUse 0 v1 v2 v3 M2) (fun r3 M4 => wk_cl (f_X3_kept r3 M4) (fun r5 M6 => (some (r5, M6)))))
set_option maxRecDepth 20000 in
theorem q_X3_use {s : State} {args : Array Value} (hts : ∀ w ∈ wsX3_use, w.before args s = true) : (Cond.fieldLink RX3 10 "WokenRooms" "chip" "LWokenRooms$Chip;").before args s = true := hts _ (List.mem_of_getElem? (i := 1) rfl)
set_option maxRecDepth 100000 in
set_option maxHeartbeats 4000000 in
theorem w_X3_use_0 {r0 : Int32} (CX : wk_X p l e R s m args below meth c cells slots Q cX3_use 4 RX3 wsX3_use D y B Lk A 4 103) (RT : wk_Ri p l e R s m args below meth c cells slots Q cX3_use D y B Lk A r0 MM) {v1 : Int32} {v2 : Int32} {v3 : Int32} {M : wk_T} {H : Heap} {locs : List Loc} {ls : Array Slot} (h : f_X3_use v1 v2 v3 M = some (r0, MM)) (hl : lv_has ls 4 [(0, .ref (B 9 0 0)), (1, .int v1), (2, .int v2), (3, .int v3)]) (hP : wk_H D y B Lk M H) (hS : va_S A s.heap H locs) : W p l e R s m args below meth c H locs cells slots Q (F0 m 0 ls []) := by
  obtain ⟨⟨hx, hb, hml, hown, hts⟩, hK, hI, hL, hA, hfr, hlo, hcs⟩ := id CX
  have q1 := q_X3_use hts
  unfold f_X3_use at h
  refine lv_aload_n hx hb dX3_use_0 rfl (lv_at hl 0 rfl) ?_
  obtain ⟨r1, M2, er1, h⟩ := wk_cl_e h
  refine wk_cVv (As := []) (rest := []) ⟨hx, hb, hml, hown, hts⟩ (m_X3_note l hI hL er1) (cwV 0 hts gX3_use_X3_note rfl rfl rfl (by decide +kernel) ⟨Nat.le_trans (by decide) hfr, Nat.le_trans (by decide) hlo⟩) hK hP hS hA (wk_l9 hL 9 (by decide) (by decide)) wk_c9 rfl rfl hl.1 (lv_room (Nat.le_of_ble_eq_true rfl)) hcs dX3_use_1 (fun H locs hP hS => ?_)
  refine lv_aload_n hx hb dX3_use_4 rfl (lv_at hl 0 rfl) ?_
  refine lv_aload_n hx hb dX3_use_5 rfl (lv_at hl 0 rfl) ?_
  refine wk_get (ref := "WokenRooms") (C := RX3) (T := TX3) (N := 5) (ci := 3) (v := .ref (B 0 0 0)) hx hb hts (fun _ h => List.mem_cons_of_mem _ (List.mem_append_left _ (List.mem_append_left _ (List.mem_append_right _ h)))) hown hK hP (wk_l9 hL 9 (by decide) (by decide)) wk_c9 rfl 0 (by decide) q1 rfl rfl dX3_use_6 ?_
  refine lv_iload_n hx hb dX3_use_9 rfl (lv_at hl 1 rfl) ?_
  refine lv_iload_n hx hb dX3_use_10 rfl (lv_at hl 2 rfl) ?_
  refine lv_iload_n hx hb dX3_use_11 rfl (lv_at hl 3 rfl) ?_
  obtain ⟨r3, M4, er3, h⟩ := wk_cl_e h
  refine wk_cVi (As := [.int v1, .int v2, .int v3]) (rest := [.ref (B 9 0 0)]) ⟨hx, hb, hml, hown, hts⟩ (m_X0_planUse l hI hL (by decide) er3) (cwV 3 hts gX3_use_X0_planUse rfl rfl rfl (by decide +kernel) ⟨Nat.le_trans (by decide) hfr, Nat.le_trans (by decide) hlo⟩) hK hP hS hA (wk_l0 hL (by decide) 0 (by decide)) wk_c0 rfl rfl hl.1 (lv_room (Nat.le_of_ble_eq_true rfl)) hcs dX3_use_12 (fun H locs hP hS => ?_)
  obtain ⟨r5, M6, er5, h⟩ := wk_cl_e h
  refine wk_cVi (As := [.int r3]) (rest := []) ⟨hx, hb, hml, hown, hts⟩ (m_X3_kept l hI hL er5) (cwV 1 hts gX3_use_X3_kept rfl rfl rfl (by decide +kernel) ⟨Nat.le_trans (by decide) hfr, Nat.le_trans (by decide) hlo⟩) hK hP hS hA (wk_l9 hL 9 (by decide) (by decide)) wk_c9 rfl rfl hl.1 (lv_room (Nat.le_of_ble_eq_true rfl)) hcs dX3_use_15 (fun H locs hP hS => ?_)
  exact RT _ _ _ _ _ _ h hP hS dX3_use_18
set_option maxRecDepth 100000 in
set_option maxHeartbeats 4000000 in
theorem m_X3_use (l : Launch) {D : va_G} {y : Nat → ClassId} {B : Nat → Nat → Nat → Nat} {Lk : Nat → Nat → Nat → Prop} (hI : wk_I B Lk) (hL : wk_L Lk) {v1 : Int32} {v2 : Int32} {v3 : Int32} {M : wk_T} {r0 : Int32} {MM : wk_T} (hf : f_X3_use v1 v2 v3 M = some (r0, MM)) : wk_Mi l yX3_use wsX3_use 4 103 D y B Lk [.ref (B 9 0 0), .int v1, .int v2, .int v3] M r0 MM :=
  wk_ofI (own := RX3) (bytes := cX3_use) (maxL := 4) (ret := some .int) (by decide +kernel) rfl rfl (Or.inl rfl) (Nat.le_of_ble_eq_true rfl) hI hL (fun p e s m args below meth c ls CX RTi RTz hl hP hS => w_X3_use_0 CX (RTi rfl) hf hl hP hS)
def f_X3_useOf (v1 : Int32) (v2 : Int32) (M : wk_T) : Option (Int32 × wk_T) := wk_cl (f_X0_hasUse 0 v1 M) (fun r1 M2 => (if r1 = 0 then (some ((-1), M2)) else wk_cl (f_X3_outside v2 0 3 M2) (fun r4 M5 => (if r4 = 0 then (if v2 = 0 then wk_gd (¬ (v1 < 0 ∨ 12 ≤ v1.toNatClampNeg)) ((some ((M5 3 0 0 (v1.toNatClampNeg)), M5))) else (if v2 = 1 then wk_gd (¬ (v1 < 0 ∨ 12 ≤ v1.toNatClampNeg)) ((some ((M5 4 0 0 (v1.toNatClampNeg)), M5))) else (if v2 = 2 then wk_gd (¬ (v1 < 0 ∨ 12 ≤ v1.toNatClampNeg)) ((some ((M5 5 0 0 (v1.toNatClampNeg)), M5))) else wk_gd (¬ (v1 < 0 ∨ 12 ≤ v1.toNatClampNeg)) (wk_cl (f_X0_firstUseOf 0 (M5 3 0 0 (v1.toNatClampNeg)) M5) (fun r14 M15 => (if r14 = v1 then (some (1, M15)) else (some (0, M15)))))))) else (some ((-1), M5))))))
set_option maxRecDepth 20000 in
theorem q_X3_useOf {s : State} {args : Array Value} (hts : ∀ w ∈ wsX3_useOf, w.before args s = true) : (Cond.fieldLink RX3 10 "WokenRooms" "chip" "LWokenRooms$Chip;").before args s = true ∧ (Cond.fieldLink RX3 98 "WokenRooms$Chip" "useRooms" "[I").before args s = true ∧ (Cond.fieldLink RX3 101 "WokenRooms$Chip" "useTimes" "[I").before args s = true ∧ (Cond.fieldLink RX3 104 "WokenRooms$Chip" "useLengths" "[I").before args s = true := ⟨hts _ (List.mem_of_getElem? (i := 1) rfl), hts _ (List.mem_of_getElem? (i := 2) rfl), hts _ (List.mem_of_getElem? (i := 3) rfl), hts _ (List.mem_of_getElem? (i := 4) rfl)⟩
set_option maxRecDepth 100000 in
set_option maxHeartbeats 4000000 in
theorem w_X3_useOf_0 {r0 : Int32} (CX : wk_X p l e R s m args below meth c cells slots Q cX3_useOf 3 RX3 wsX3_useOf D y B Lk A 1 24) (RT : wk_Ri p l e R s m args below meth c cells slots Q cX3_useOf D y B Lk A r0 MM) {v1 : Int32} {v2 : Int32} {M : wk_T} {H : Heap} {locs : List Loc} {ls : Array Slot} (h : f_X3_useOf v1 v2 M = some (r0, MM)) (hl : lv_has ls 3 [(0, .ref (B 9 0 0)), (1, .int v1), (2, .int v2)]) (hP : wk_H D y B Lk M H) (hS : va_S A s.heap H locs) : W p l e R s m args below meth c H locs cells slots Q (F0 m 0 ls []) := by
  obtain ⟨⟨hx, hb, hml, hown, hts⟩, hK, hI, hL, hA, hfr, hlo, hcs⟩ := id CX
  obtain ⟨q1, q2, q3, q4⟩ := q_X3_useOf hts
  unfold f_X3_useOf at h
  refine lv_aload_n hx hb dX3_useOf_0 rfl (lv_at hl 0 rfl) ?_
  refine wk_get (ref := "WokenRooms") (C := RX3) (T := TX3) (N := 5) (ci := 3) (v := .ref (B 0 0 0)) hx hb hts (fun _ h => List.mem_cons_of_mem _ (List.mem_append_left _ (List.mem_append_right _ h))) hown hK hP (wk_l9 hL 9 (by decide) (by decide)) wk_c9 rfl 0 (by decide) q1 rfl rfl dX3_useOf_1 ?_
  refine lv_iload_n hx hb dX3_useOf_4 rfl (lv_at hl 1 rfl) ?_
  obtain ⟨r1, M2, er1, h⟩ := wk_cl_e h
  refine wk_cVi (As := [.int v1]) (rest := []) ⟨hx, hb, hml, hown, hts⟩ (m_X0_hasUse l hI hL (by decide) er1) (cwV 1 hts gX3_useOf_X0_hasUse rfl rfl rfl (by decide +kernel) ⟨Nat.le_trans (by decide) hfr, Nat.le_trans (by decide) hlo⟩) hK hP hS hA (wk_l0 hL (by decide) 0 (by decide)) wk_c0 rfl rfl hl.1 (lv_room (Nat.le_of_ble_eq_true rfl)) hcs dX3_useOf_5 (fun H locs hP hS => ?_)
  refine lv_if_eq (tgt := 20) hx hb dX3_useOf_8 (by decide) (fun g3 => ?_) (fun g3 => ?_)
  · have h := wk_p g3 h
    refine lv_iconst (v := (-1)) hx hb dX3_useOf_20 (by decide) ?_
    exact RT _ _ _ _ _ _ h hP hS dX3_useOf_21
  · have h := wk_n g3 h
    refine lv_iload_n hx hb dX3_useOf_11 rfl (lv_at hl 2 rfl) ?_
    refine lv_iconst (v := 0) hx hb dX3_useOf_12 (by decide) ?_
    refine lv_iconst (v := 3) hx hb dX3_useOf_13 (by decide) ?_
    obtain ⟨r4, M5, er4, h⟩ := wk_cl_e h
    refine wk_cSi (As := [.int v2, .int 0, .int 3]) (rest := []) ⟨hx, hb, hml, hown, hts⟩ (m_X3_outside l hI hL er4) (va_cwS 3 hts gX3_useOf_X3_outside rfl rfl rfl (by decide +kernel) ⟨Nat.le_trans (by decide) hfr, Nat.le_trans (by decide) hlo⟩) hK hP hS hA rfl hl.1 (lv_room (Nat.le_of_ble_eq_true rfl)) hcs dX3_useOf_14 (fun H locs hP hS => ?_)
    refine lv_if_eq (tgt := 22) hx hb dX3_useOf_17 (by decide) (fun g6 => ?_) (fun g6 => ?_)
    · have h := wk_p g6 h
      refine lv_iload_n hx hb dX3_useOf_22 rfl (lv_at hl 2 rfl) ?_
      by_cases g7 : v2 = 0
      · have h := wk_p g7 h
        refine lv_tableIn (off := 25) (tgt := 48) hx hb dX3_useOf_23 (by rw [g7]; decide) (by rw [g7]; decide) (by rw [g7]; rfl) (by decide) ?_
        refine lv_aload_n hx hb dX3_useOf_48 rfl (lv_at hl 0 rfl) ?_
        refine wk_get (ref := "WokenRooms") (C := RX3) (T := TX3) (N := 5) (ci := 3) (v := .ref (B 0 0 0)) hx hb hts (fun _ h => List.mem_cons_of_mem _ (List.mem_append_left _ (List.mem_append_right _ h))) hown hK hP (wk_l9 hL 9 (by decide) (by decide)) wk_c9 rfl 0 (by decide) q1 rfl rfl dX3_useOf_49 ?_
        refine wk_get (ref := "WokenRooms$Chip") (C := RX0) (T := TX0) (N := 8) (ci := 0) (v := .ref (B 3 0 0)) hx hb hts (fun _ h => List.mem_cons_of_mem _ (List.mem_append_right _ h)) hown hK hP (wk_l0 hL (by decide) 0 (by decide)) wk_c0 rfl 3 (by decide) q2 rfl rfl dX3_useOf_52 ?_
        refine lv_iload_n hx hb dX3_useOf_55 rfl (lv_at hl 1 rfl) ?_
        obtain ⟨g8, h⟩ := wk_gd_e h
        refine wk_iald (j := v1.toNatClampNeg) hx hb hK hP (wk_l0 hL (by decide) 3 (by decide)) wk_c3 g8 rfl dX3_useOf_56 ?_
        exact RT _ _ _ _ _ _ h hP hS dX3_useOf_57
      · have h := wk_n g7 h
        by_cases g9 : v2 = 1
        · have h := wk_p g9 h
          refine lv_tableIn (off := 35) (tgt := 58) hx hb dX3_useOf_23 (by rw [g9]; decide) (by rw [g9]; decide) (by rw [g9]; rfl) (by decide) ?_
          refine lv_aload_n hx hb dX3_useOf_58 rfl (lv_at hl 0 rfl) ?_
          refine wk_get (ref := "WokenRooms") (C := RX3) (T := TX3) (N := 5) (ci := 3) (v := .ref (B 0 0 0)) hx hb hts (fun _ h => List.mem_cons_of_mem _ (List.mem_append_left _ (List.mem_append_right _ h))) hown hK hP (wk_l9 hL 9 (by decide) (by decide)) wk_c9 rfl 0 (by decide) q1 rfl rfl dX3_useOf_59 ?_
          refine wk_get (ref := "WokenRooms$Chip") (C := RX0) (T := TX0) (N := 8) (ci := 0) (v := .ref (B 4 0 0)) hx hb hts (fun _ h => List.mem_cons_of_mem _ (List.mem_append_right _ h)) hown hK hP (wk_l0 hL (by decide) 0 (by decide)) wk_c0 rfl 4 (by decide) q3 rfl rfl dX3_useOf_62 ?_
          refine lv_iload_n hx hb dX3_useOf_65 rfl (lv_at hl 1 rfl) ?_
          obtain ⟨g10, h⟩ := wk_gd_e h
          refine wk_iald (j := v1.toNatClampNeg) hx hb hK hP (wk_l0 hL (by decide) 4 (by decide)) wk_c4 g10 rfl dX3_useOf_66 ?_
          exact RT _ _ _ _ _ _ h hP hS dX3_useOf_67
        · have h := wk_n g9 h
          by_cases g11 : v2 = 2
          · have h := wk_p g11 h
            refine lv_tableIn (off := 45) (tgt := 68) hx hb dX3_useOf_23 (by rw [g11]; decide) (by rw [g11]; decide) (by rw [g11]; rfl) (by decide) ?_
            refine lv_aload_n hx hb dX3_useOf_68 rfl (lv_at hl 0 rfl) ?_
            refine wk_get (ref := "WokenRooms") (C := RX3) (T := TX3) (N := 5) (ci := 3) (v := .ref (B 0 0 0)) hx hb hts (fun _ h => List.mem_cons_of_mem _ (List.mem_append_left _ (List.mem_append_right _ h))) hown hK hP (wk_l9 hL 9 (by decide) (by decide)) wk_c9 rfl 0 (by decide) q1 rfl rfl dX3_useOf_69 ?_
            refine wk_get (ref := "WokenRooms$Chip") (C := RX0) (T := TX0) (N := 8) (ci := 0) (v := .ref (B 5 0 0)) hx hb hts (fun _ h => List.mem_cons_of_mem _ (List.mem_append_right _ h)) hown hK hP (wk_l0 hL (by decide) 0 (by decide)) wk_c0 rfl 5 (by decide) q4 rfl rfl dX3_useOf_72 ?_
            refine lv_iload_n hx hb dX3_useOf_75 rfl (lv_at hl 1 rfl) ?_
            obtain ⟨g12, h⟩ := wk_gd_e h
            refine wk_iald (j := v1.toNatClampNeg) hx hb hK hP (wk_l0 hL (by decide) 5 (by decide)) wk_c5 g12 rfl dX3_useOf_76 ?_
            exact RT _ _ _ _ _ _ h hP hS dX3_useOf_77
          · have h := wk_n g11 h
            refine lv_tableOut (tgt := 78) hx hb dX3_useOf_23 (by have q0 := lv_neT g7 (a := 0) (by decide); have q1 := lv_neT g9 (a := 1) (by decide); have q2 := lv_neT g11 (a := 2) (by decide); omega) (by decide) ?_
            refine lv_aload_n hx hb dX3_useOf_78 rfl (lv_at hl 0 rfl) ?_
            refine wk_get (ref := "WokenRooms") (C := RX3) (T := TX3) (N := 5) (ci := 3) (v := .ref (B 0 0 0)) hx hb hts (fun _ h => List.mem_cons_of_mem _ (List.mem_append_left _ (List.mem_append_right _ h))) hown hK hP (wk_l9 hL 9 (by decide) (by decide)) wk_c9 rfl 0 (by decide) q1 rfl rfl dX3_useOf_79 ?_
            refine lv_aload_n hx hb dX3_useOf_82 rfl (lv_at hl 0 rfl) ?_
            refine wk_get (ref := "WokenRooms") (C := RX3) (T := TX3) (N := 5) (ci := 3) (v := .ref (B 0 0 0)) hx hb hts (fun _ h => List.mem_cons_of_mem _ (List.mem_append_left _ (List.mem_append_right _ h))) hown hK hP (wk_l9 hL 9 (by decide) (by decide)) wk_c9 rfl 0 (by decide) q1 rfl rfl dX3_useOf_83 ?_
            refine wk_get (ref := "WokenRooms$Chip") (C := RX0) (T := TX0) (N := 8) (ci := 0) (v := .ref (B 3 0 0)) hx hb hts (fun _ h => List.mem_cons_of_mem _ (List.mem_append_right _ h)) hown hK hP (wk_l0 hL (by decide) 0 (by decide)) wk_c0 rfl 3 (by decide) q2 rfl rfl dX3_useOf_86 ?_
            refine lv_iload_n hx hb dX3_useOf_89 rfl (lv_at hl 1 rfl) ?_
            obtain ⟨g13, h⟩ := wk_gd_e h
            refine wk_iald (j := v1.toNatClampNeg) hx hb hK hP (wk_l0 hL (by decide) 3 (by decide)) wk_c3 g13 rfl dX3_useOf_90 ?_
            obtain ⟨r14, M15, er14, h⟩ := wk_cl_e h
            refine wk_cVi (As := [.int (M5 3 0 0 (v1.toNatClampNeg))]) (rest := []) ⟨hx, hb, hml, hown, hts⟩ (m_X0_firstUseOf l hI hL (by decide) er14) (cwV 1 hts gX3_useOf_X0_firstUseOf rfl rfl rfl (by decide +kernel) ⟨Nat.le_trans (by decide) hfr, Nat.le_trans (by decide) hlo⟩) hK hP hS hA (wk_l0 hL (by decide) 0 (by decide)) wk_c0 rfl rfl hl.1 (lv_room (Nat.le_of_ble_eq_true rfl)) hcs dX3_useOf_91 (fun H locs hP hS => ?_)
            refine lv_iload_n hx hb dX3_useOf_94 rfl (lv_at hl 1 rfl) ?_
            refine lv_icmp_ne (tgt := 102) hx hb dX3_useOf_95 (by decide) (fun g16 => ?_) (fun g16 => ?_)
            · have h := wk_n g16 h
              refine lv_iconst (v := 0) hx hb dX3_useOf_102 (by decide) ?_
              exact RT _ _ _ _ _ _ h hP hS dX3_useOf_103
            · have h := wk_p g16 h
              refine lv_iconst (v := 1) hx hb dX3_useOf_98 (by decide) ?_
              refine lv_goto (tgt := 103) hx hb dX3_useOf_99 (by decide) ?_
              exact RT _ _ _ _ _ _ h hP hS dX3_useOf_103
    · have h := wk_n g6 h
      refine lv_iconst (v := (-1)) hx hb dX3_useOf_20 (by decide) ?_
      exact RT _ _ _ _ _ _ h hP hS dX3_useOf_21
set_option maxRecDepth 100000 in
set_option maxHeartbeats 4000000 in
theorem m_X3_useOf (l : Launch) {D : va_G} {y : Nat → ClassId} {B : Nat → Nat → Nat → Nat} {Lk : Nat → Nat → Nat → Prop} (hI : wk_I B Lk) (hL : wk_L Lk) {v1 : Int32} {v2 : Int32} {M : wk_T} {r0 : Int32} {MM : wk_T} (hf : f_X3_useOf v1 v2 M = some (r0, MM)) : wk_Mi l yX3_useOf wsX3_useOf 1 24 D y B Lk [.ref (B 9 0 0), .int v1, .int v2] M r0 MM :=
  wk_ofI (own := RX3) (bytes := cX3_useOf) (maxL := 3) (ret := some .int) (by decide +kernel) rfl rfl (Or.inl rfl) (Nat.le_of_ble_eq_true rfl) hI hL (fun p e s m args below meth c ls CX RTi RTz hl hP hS => w_X3_useOf_0 CX (RTi rfl) hf hl hP hS)
def f_X3_drop (v1 : Int32) (M : wk_T) : Option (Int32 × wk_T) := wk_cl (f_X3_note M) (fun _ M2 => wk_cl (f_X0_dropUse 0 v1 M2) (fun r3 M4 => wk_cl (f_X3_kept r3 M4) (fun r5 M6 => (some (r5, M6)))))
set_option maxRecDepth 20000 in
theorem q_X3_drop {s : State} {args : Array Value} (hts : ∀ w ∈ wsX3_drop, w.before args s = true) : (Cond.fieldLink RX3 10 "WokenRooms" "chip" "LWokenRooms$Chip;").before args s = true := hts _ (List.mem_of_getElem? (i := 1) rfl)
set_option maxRecDepth 100000 in
set_option maxHeartbeats 4000000 in
theorem w_X3_drop_0 {r0 : Int32} (CX : wk_X p l e R s m args below meth c cells slots Q cX3_drop 2 RX3 wsX3_drop D y B Lk A 4 103) (RT : wk_Ri p l e R s m args below meth c cells slots Q cX3_drop D y B Lk A r0 MM) {v1 : Int32} {M : wk_T} {H : Heap} {locs : List Loc} {ls : Array Slot} (h : f_X3_drop v1 M = some (r0, MM)) (hl : lv_has ls 2 [(0, .ref (B 9 0 0)), (1, .int v1)]) (hP : wk_H D y B Lk M H) (hS : va_S A s.heap H locs) : W p l e R s m args below meth c H locs cells slots Q (F0 m 0 ls []) := by
  obtain ⟨⟨hx, hb, hml, hown, hts⟩, hK, hI, hL, hA, hfr, hlo, hcs⟩ := id CX
  have q1 := q_X3_drop hts
  unfold f_X3_drop at h
  refine lv_aload_n hx hb dX3_drop_0 rfl (lv_at hl 0 rfl) ?_
  obtain ⟨r1, M2, er1, h⟩ := wk_cl_e h
  refine wk_cVv (As := []) (rest := []) ⟨hx, hb, hml, hown, hts⟩ (m_X3_note l hI hL er1) (cwV 0 hts gX3_drop_X3_note rfl rfl rfl (by decide +kernel) ⟨Nat.le_trans (by decide) hfr, Nat.le_trans (by decide) hlo⟩) hK hP hS hA (wk_l9 hL 9 (by decide) (by decide)) wk_c9 rfl rfl hl.1 (lv_room (Nat.le_of_ble_eq_true rfl)) hcs dX3_drop_1 (fun H locs hP hS => ?_)
  refine lv_aload_n hx hb dX3_drop_4 rfl (lv_at hl 0 rfl) ?_
  refine lv_aload_n hx hb dX3_drop_5 rfl (lv_at hl 0 rfl) ?_
  refine wk_get (ref := "WokenRooms") (C := RX3) (T := TX3) (N := 5) (ci := 3) (v := .ref (B 0 0 0)) hx hb hts (fun _ h => List.mem_cons_of_mem _ (List.mem_append_left _ (List.mem_append_left _ (List.mem_append_right _ h)))) hown hK hP (wk_l9 hL 9 (by decide) (by decide)) wk_c9 rfl 0 (by decide) q1 rfl rfl dX3_drop_6 ?_
  refine lv_iload_n hx hb dX3_drop_9 rfl (lv_at hl 1 rfl) ?_
  obtain ⟨r3, M4, er3, h⟩ := wk_cl_e h
  refine wk_cVi (As := [.int v1]) (rest := [.ref (B 9 0 0)]) ⟨hx, hb, hml, hown, hts⟩ (m_X0_dropUse l hI hL (by decide) er3) (cwV 1 hts gX3_drop_X0_dropUse rfl rfl rfl (by decide +kernel) ⟨Nat.le_trans (by decide) hfr, Nat.le_trans (by decide) hlo⟩) hK hP hS hA (wk_l0 hL (by decide) 0 (by decide)) wk_c0 rfl rfl hl.1 (lv_room (Nat.le_of_ble_eq_true rfl)) hcs dX3_drop_10 (fun H locs hP hS => ?_)
  obtain ⟨r5, M6, er5, h⟩ := wk_cl_e h
  refine wk_cVi (As := [.int r3]) (rest := []) ⟨hx, hb, hml, hown, hts⟩ (m_X3_kept l hI hL er5) (cwV 1 hts gX3_drop_X3_kept rfl rfl rfl (by decide +kernel) ⟨Nat.le_trans (by decide) hfr, Nat.le_trans (by decide) hlo⟩) hK hP hS hA (wk_l9 hL 9 (by decide) (by decide)) wk_c9 rfl rfl hl.1 (lv_room (Nat.le_of_ble_eq_true rfl)) hcs dX3_drop_13 (fun H locs hP hS => ?_)
  exact RT _ _ _ _ _ _ h hP hS dX3_drop_16
set_option maxRecDepth 100000 in
set_option maxHeartbeats 4000000 in
theorem m_X3_drop (l : Launch) {D : va_G} {y : Nat → ClassId} {B : Nat → Nat → Nat → Nat} {Lk : Nat → Nat → Nat → Prop} (hI : wk_I B Lk) (hL : wk_L Lk) {v1 : Int32} {M : wk_T} {r0 : Int32} {MM : wk_T} (hf : f_X3_drop v1 M = some (r0, MM)) : wk_Mi l yX3_drop wsX3_drop 4 103 D y B Lk [.ref (B 9 0 0), .int v1] M r0 MM :=
  wk_ofI (own := RX3) (bytes := cX3_drop) (maxL := 2) (ret := some .int) (by decide +kernel) rfl rfl (Or.inl rfl) (Nat.le_of_ble_eq_true rfl) hI hL (fun p e s m args below meth c ls CX RTi RTz hl hP hS => w_X3_drop_0 CX (RTi rfl) hf hl hP hS)
def f_X3_wake (v1 : Int32) (M : wk_T) : Option (Int32 × wk_T) := wk_cl (f_X3_note M) (fun _ M2 => wk_cl (f_X0_wakeRoom 0 v1 M2) (fun r3 M4 => wk_cl (f_X3_kept r3 M4) (fun r5 M6 => (some (r5, M6)))))
set_option maxRecDepth 20000 in
theorem q_X3_wake {s : State} {args : Array Value} (hts : ∀ w ∈ wsX3_wake, w.before args s = true) : (Cond.fieldLink RX3 10 "WokenRooms" "chip" "LWokenRooms$Chip;").before args s = true := hts _ (List.mem_of_getElem? (i := 1) rfl)
set_option maxRecDepth 100000 in
set_option maxHeartbeats 4000000 in
theorem w_X3_wake_0 {r0 : Int32} (CX : wk_X p l e R s m args below meth c cells slots Q cX3_wake 2 RX3 wsX3_wake D y B Lk A 4 103) (RT : wk_Ri p l e R s m args below meth c cells slots Q cX3_wake D y B Lk A r0 MM) {v1 : Int32} {M : wk_T} {H : Heap} {locs : List Loc} {ls : Array Slot} (h : f_X3_wake v1 M = some (r0, MM)) (hl : lv_has ls 2 [(0, .ref (B 9 0 0)), (1, .int v1)]) (hP : wk_H D y B Lk M H) (hS : va_S A s.heap H locs) : W p l e R s m args below meth c H locs cells slots Q (F0 m 0 ls []) := by
  obtain ⟨⟨hx, hb, hml, hown, hts⟩, hK, hI, hL, hA, hfr, hlo, hcs⟩ := id CX
  have q1 := q_X3_wake hts
  unfold f_X3_wake at h
  refine lv_aload_n hx hb dX3_wake_0 rfl (lv_at hl 0 rfl) ?_
  obtain ⟨r1, M2, er1, h⟩ := wk_cl_e h
  refine wk_cVv (As := []) (rest := []) ⟨hx, hb, hml, hown, hts⟩ (m_X3_note l hI hL er1) (cwV 0 hts gX3_wake_X3_note rfl rfl rfl (by decide +kernel) ⟨Nat.le_trans (by decide) hfr, Nat.le_trans (by decide) hlo⟩) hK hP hS hA (wk_l9 hL 9 (by decide) (by decide)) wk_c9 rfl rfl hl.1 (lv_room (Nat.le_of_ble_eq_true rfl)) hcs dX3_wake_1 (fun H locs hP hS => ?_)
  refine lv_aload_n hx hb dX3_wake_4 rfl (lv_at hl 0 rfl) ?_
  refine lv_aload_n hx hb dX3_wake_5 rfl (lv_at hl 0 rfl) ?_
  refine wk_get (ref := "WokenRooms") (C := RX3) (T := TX3) (N := 5) (ci := 3) (v := .ref (B 0 0 0)) hx hb hts (fun _ h => List.mem_cons_of_mem _ (List.mem_append_left _ (List.mem_append_left _ (List.mem_append_right _ h)))) hown hK hP (wk_l9 hL 9 (by decide) (by decide)) wk_c9 rfl 0 (by decide) q1 rfl rfl dX3_wake_6 ?_
  refine lv_iload_n hx hb dX3_wake_9 rfl (lv_at hl 1 rfl) ?_
  obtain ⟨r3, M4, er3, h⟩ := wk_cl_e h
  refine wk_cVi (As := [.int v1]) (rest := [.ref (B 9 0 0)]) ⟨hx, hb, hml, hown, hts⟩ (m_X0_wakeRoom l hI hL (by decide) er3) (cwV 1 hts gX3_wake_X0_wakeRoom rfl rfl rfl (by decide +kernel) ⟨Nat.le_trans (by decide) hfr, Nat.le_trans (by decide) hlo⟩) hK hP hS hA (wk_l0 hL (by decide) 0 (by decide)) wk_c0 rfl rfl hl.1 (lv_room (Nat.le_of_ble_eq_true rfl)) hcs dX3_wake_10 (fun H locs hP hS => ?_)
  obtain ⟨r5, M6, er5, h⟩ := wk_cl_e h
  refine wk_cVi (As := [.int r3]) (rest := []) ⟨hx, hb, hml, hown, hts⟩ (m_X3_kept l hI hL er5) (cwV 1 hts gX3_wake_X3_kept rfl rfl rfl (by decide +kernel) ⟨Nat.le_trans (by decide) hfr, Nat.le_trans (by decide) hlo⟩) hK hP hS hA (wk_l9 hL 9 (by decide) (by decide)) wk_c9 rfl rfl hl.1 (lv_room (Nat.le_of_ble_eq_true rfl)) hcs dX3_wake_13 (fun H locs hP hS => ?_)
  exact RT _ _ _ _ _ _ h hP hS dX3_wake_16
set_option maxRecDepth 100000 in
set_option maxHeartbeats 4000000 in
theorem m_X3_wake (l : Launch) {D : va_G} {y : Nat → ClassId} {B : Nat → Nat → Nat → Nat} {Lk : Nat → Nat → Nat → Prop} (hI : wk_I B Lk) (hL : wk_L Lk) {v1 : Int32} {M : wk_T} {r0 : Int32} {MM : wk_T} (hf : f_X3_wake v1 M = some (r0, MM)) : wk_Mi l yX3_wake wsX3_wake 4 103 D y B Lk [.ref (B 9 0 0), .int v1] M r0 MM :=
  wk_ofI (own := RX3) (bytes := cX3_wake) (maxL := 2) (ret := some .int) (by decide +kernel) rfl rfl (Or.inl rfl) (Nat.le_of_ble_eq_true rfl) hI hL (fun p e s m args below meth c ls CX RTi RTz hl hP hS => w_X3_wake_0 CX (RTi rfl) hf hl hP hS)
def f_X3_sleep (v1 : Int32) (M : wk_T) : Option (Int32 × wk_T) := wk_cl (f_X3_note M) (fun _ M2 => wk_cl (f_X0_sendToSleep 0 v1 M2) (fun r3 M4 => wk_cl (f_X3_kept r3 M4) (fun r5 M6 => (some (r5, M6)))))
set_option maxRecDepth 20000 in
theorem q_X3_sleep {s : State} {args : Array Value} (hts : ∀ w ∈ wsX3_sleep, w.before args s = true) : (Cond.fieldLink RX3 10 "WokenRooms" "chip" "LWokenRooms$Chip;").before args s = true := hts _ (List.mem_of_getElem? (i := 1) rfl)
set_option maxRecDepth 100000 in
set_option maxHeartbeats 4000000 in
theorem w_X3_sleep_0 {r0 : Int32} (CX : wk_X p l e R s m args below meth c cells slots Q cX3_sleep 2 RX3 wsX3_sleep D y B Lk A 4 103) (RT : wk_Ri p l e R s m args below meth c cells slots Q cX3_sleep D y B Lk A r0 MM) {v1 : Int32} {M : wk_T} {H : Heap} {locs : List Loc} {ls : Array Slot} (h : f_X3_sleep v1 M = some (r0, MM)) (hl : lv_has ls 2 [(0, .ref (B 9 0 0)), (1, .int v1)]) (hP : wk_H D y B Lk M H) (hS : va_S A s.heap H locs) : W p l e R s m args below meth c H locs cells slots Q (F0 m 0 ls []) := by
  obtain ⟨⟨hx, hb, hml, hown, hts⟩, hK, hI, hL, hA, hfr, hlo, hcs⟩ := id CX
  have q1 := q_X3_sleep hts
  unfold f_X3_sleep at h
  refine lv_aload_n hx hb dX3_sleep_0 rfl (lv_at hl 0 rfl) ?_
  obtain ⟨r1, M2, er1, h⟩ := wk_cl_e h
  refine wk_cVv (As := []) (rest := []) ⟨hx, hb, hml, hown, hts⟩ (m_X3_note l hI hL er1) (cwV 0 hts gX3_sleep_X3_note rfl rfl rfl (by decide +kernel) ⟨Nat.le_trans (by decide) hfr, Nat.le_trans (by decide) hlo⟩) hK hP hS hA (wk_l9 hL 9 (by decide) (by decide)) wk_c9 rfl rfl hl.1 (lv_room (Nat.le_of_ble_eq_true rfl)) hcs dX3_sleep_1 (fun H locs hP hS => ?_)
  refine lv_aload_n hx hb dX3_sleep_4 rfl (lv_at hl 0 rfl) ?_
  refine lv_aload_n hx hb dX3_sleep_5 rfl (lv_at hl 0 rfl) ?_
  refine wk_get (ref := "WokenRooms") (C := RX3) (T := TX3) (N := 5) (ci := 3) (v := .ref (B 0 0 0)) hx hb hts (fun _ h => List.mem_cons_of_mem _ (List.mem_append_left _ (List.mem_append_left _ (List.mem_append_right _ h)))) hown hK hP (wk_l9 hL 9 (by decide) (by decide)) wk_c9 rfl 0 (by decide) q1 rfl rfl dX3_sleep_6 ?_
  refine lv_iload_n hx hb dX3_sleep_9 rfl (lv_at hl 1 rfl) ?_
  obtain ⟨r3, M4, er3, h⟩ := wk_cl_e h
  refine wk_cVi (As := [.int v1]) (rest := [.ref (B 9 0 0)]) ⟨hx, hb, hml, hown, hts⟩ (m_X0_sendToSleep l hI hL (by decide) er3) (cwV 1 hts gX3_sleep_X0_sendToSleep rfl rfl rfl (by decide +kernel) ⟨Nat.le_trans (by decide) hfr, Nat.le_trans (by decide) hlo⟩) hK hP hS hA (wk_l0 hL (by decide) 0 (by decide)) wk_c0 rfl rfl hl.1 (lv_room (Nat.le_of_ble_eq_true rfl)) hcs dX3_sleep_10 (fun H locs hP hS => ?_)
  obtain ⟨r5, M6, er5, h⟩ := wk_cl_e h
  refine wk_cVi (As := [.int r3]) (rest := []) ⟨hx, hb, hml, hown, hts⟩ (m_X3_kept l hI hL er5) (cwV 1 hts gX3_sleep_X3_kept rfl rfl rfl (by decide +kernel) ⟨Nat.le_trans (by decide) hfr, Nat.le_trans (by decide) hlo⟩) hK hP hS hA (wk_l9 hL 9 (by decide) (by decide)) wk_c9 rfl rfl hl.1 (lv_room (Nat.le_of_ble_eq_true rfl)) hcs dX3_sleep_13 (fun H locs hP hS => ?_)
  exact RT _ _ _ _ _ _ h hP hS dX3_sleep_16
set_option maxRecDepth 100000 in
set_option maxHeartbeats 4000000 in
theorem m_X3_sleep (l : Launch) {D : va_G} {y : Nat → ClassId} {B : Nat → Nat → Nat → Nat} {Lk : Nat → Nat → Nat → Prop} (hI : wk_I B Lk) (hL : wk_L Lk) {v1 : Int32} {M : wk_T} {r0 : Int32} {MM : wk_T} (hf : f_X3_sleep v1 M = some (r0, MM)) : wk_Mi l yX3_sleep wsX3_sleep 4 103 D y B Lk [.ref (B 9 0 0), .int v1] M r0 MM :=
  wk_ofI (own := RX3) (bytes := cX3_sleep) (maxL := 2) (ret := some .int) (by decide +kernel) rfl rfl (Or.inl rfl) (Nat.le_of_ble_eq_true rfl) hI hL (fun p e s m args below meth c ls CX RTi RTz hl hP hS => w_X3_sleep_0 CX (RTi rfl) hf hl hP hS)
def f_X3_tick (v1 : Int32) (M : wk_T) : Option (Int32 × wk_T) := wk_cl (f_X3_note M) (fun _ M2 => wk_cl (f_X0_letTicksGoBy 0 v1 M2) (fun r3 M4 => wk_cl (f_X3_kept r3 M4) (fun r5 M6 => (some (r5, M6)))))
set_option maxRecDepth 20000 in
theorem q_X3_tick {s : State} {args : Array Value} (hts : ∀ w ∈ wsX3_tick, w.before args s = true) : (Cond.fieldLink RX3 10 "WokenRooms" "chip" "LWokenRooms$Chip;").before args s = true := hts _ (List.mem_of_getElem? (i := 1) rfl)
set_option maxRecDepth 100000 in
set_option maxHeartbeats 4000000 in
theorem w_X3_tick_0 {r0 : Int32} (CX : wk_X p l e R s m args below meth c cells slots Q cX3_tick 2 RX3 wsX3_tick D y B Lk A 4 103) (RT : wk_Ri p l e R s m args below meth c cells slots Q cX3_tick D y B Lk A r0 MM) {v1 : Int32} {M : wk_T} {H : Heap} {locs : List Loc} {ls : Array Slot} (h : f_X3_tick v1 M = some (r0, MM)) (hl : lv_has ls 2 [(0, .ref (B 9 0 0)), (1, .int v1)]) (hP : wk_H D y B Lk M H) (hS : va_S A s.heap H locs) : W p l e R s m args below meth c H locs cells slots Q (F0 m 0 ls []) := by
  obtain ⟨⟨hx, hb, hml, hown, hts⟩, hK, hI, hL, hA, hfr, hlo, hcs⟩ := id CX
  have q1 := q_X3_tick hts
  unfold f_X3_tick at h
  refine lv_aload_n hx hb dX3_tick_0 rfl (lv_at hl 0 rfl) ?_
  obtain ⟨r1, M2, er1, h⟩ := wk_cl_e h
  refine wk_cVv (As := []) (rest := []) ⟨hx, hb, hml, hown, hts⟩ (m_X3_note l hI hL er1) (cwV 0 hts gX3_tick_X3_note rfl rfl rfl (by decide +kernel) ⟨Nat.le_trans (by decide) hfr, Nat.le_trans (by decide) hlo⟩) hK hP hS hA (wk_l9 hL 9 (by decide) (by decide)) wk_c9 rfl rfl hl.1 (lv_room (Nat.le_of_ble_eq_true rfl)) hcs dX3_tick_1 (fun H locs hP hS => ?_)
  refine lv_aload_n hx hb dX3_tick_4 rfl (lv_at hl 0 rfl) ?_
  refine lv_aload_n hx hb dX3_tick_5 rfl (lv_at hl 0 rfl) ?_
  refine wk_get (ref := "WokenRooms") (C := RX3) (T := TX3) (N := 5) (ci := 3) (v := .ref (B 0 0 0)) hx hb hts (fun _ h => List.mem_cons_of_mem _ (List.mem_append_left _ (List.mem_append_left _ (List.mem_append_right _ h)))) hown hK hP (wk_l9 hL 9 (by decide) (by decide)) wk_c9 rfl 0 (by decide) q1 rfl rfl dX3_tick_6 ?_
  refine lv_iload_n hx hb dX3_tick_9 rfl (lv_at hl 1 rfl) ?_
  obtain ⟨r3, M4, er3, h⟩ := wk_cl_e h
  refine wk_cVi (As := [.int v1]) (rest := [.ref (B 9 0 0)]) ⟨hx, hb, hml, hown, hts⟩ (m_X0_letTicksGoBy l hI hL (by decide) er3) (cwV 1 hts gX3_tick_X0_letTicksGoBy rfl rfl rfl (by decide +kernel) ⟨Nat.le_trans (by decide) hfr, Nat.le_trans (by decide) hlo⟩) hK hP hS hA (wk_l0 hL (by decide) 0 (by decide)) wk_c0 rfl rfl hl.1 (lv_room (Nat.le_of_ble_eq_true rfl)) hcs dX3_tick_10 (fun H locs hP hS => ?_)
  obtain ⟨r5, M6, er5, h⟩ := wk_cl_e h
  refine wk_cVi (As := [.int r3]) (rest := []) ⟨hx, hb, hml, hown, hts⟩ (m_X3_kept l hI hL er5) (cwV 1 hts gX3_tick_X3_kept rfl rfl rfl (by decide +kernel) ⟨Nat.le_trans (by decide) hfr, Nat.le_trans (by decide) hlo⟩) hK hP hS hA (wk_l9 hL 9 (by decide) (by decide)) wk_c9 rfl rfl hl.1 (lv_room (Nat.le_of_ble_eq_true rfl)) hcs dX3_tick_13 (fun H locs hP hS => ?_)
  exact RT _ _ _ _ _ _ h hP hS dX3_tick_16
set_option maxRecDepth 100000 in
set_option maxHeartbeats 4000000 in
theorem m_X3_tick (l : Launch) {D : va_G} {y : Nat → ClassId} {B : Nat → Nat → Nat → Nat} {Lk : Nat → Nat → Nat → Prop} (hI : wk_I B Lk) (hL : wk_L Lk) {v1 : Int32} {M : wk_T} {r0 : Int32} {MM : wk_T} (hf : f_X3_tick v1 M = some (r0, MM)) : wk_Mi l yX3_tick wsX3_tick 4 103 D y B Lk [.ref (B 9 0 0), .int v1] M r0 MM :=
  wk_ofI (own := RX3) (bytes := cX3_tick) (maxL := 2) (ret := some .int) (by decide +kernel) rfl rfl (Or.inl rfl) (Nat.le_of_ble_eq_true rfl) hI hL (fun p e s m args below meth c ls CX RTi RTz hl hP hS => w_X3_tick_0 CX (RTi rfl) hf hl hP hS)
def f_X3_energy (v1 : Int32) (v2 : Int32) (M : wk_T) : Option (Int32 × wk_T) := wk_cl (f_X0_hasRoom 0 v1 M) (fun r1 M2 => (if r1 = 0 then (some ((-1), M2)) else wk_cl (f_X3_outside v2 0 4 M2) (fun r4 M5 => (if r4 = 0 then wk_gd (¬ (v1 < 0 ∨ 8 ≤ v1.toNatClampNeg)) ((if v2 = 4 then wk_cl (f_X2_paidInAll 0 v1.toNatClampNeg M5) (fun r10 M11 => (some (r10, M11))) else wk_gd (¬ (v2 < 0 ∨ 4 ≤ v2.toNatClampNeg)) ((some ((M5 8 0 v1.toNatClampNeg (v2.toNatClampNeg)), M5))))) else (some ((-1), M5))))))
set_option maxRecDepth 20000 in
theorem q_X3_energy {s : State} {args : Array Value} (hts : ∀ w ∈ wsX3_energy, w.before args s = true) : (Cond.fieldLink RX3 10 "WokenRooms" "chip" "LWokenRooms$Chip;").before args s = true ∧ (Cond.fieldLink RX3 41 "WokenRooms$Chip" "rooms" "[LWokenRooms$Room;").before args s = true ∧ (Cond.fieldLink RX3 126 "WokenRooms$Room" "paid" "[I").before args s = true := ⟨hts _ (List.mem_of_getElem? (i := 1) rfl), hts _ (List.mem_of_getElem? (i := 2) rfl), hts _ (List.mem_of_getElem? (i := 3) rfl)⟩
set_option maxRecDepth 100000 in
set_option maxHeartbeats 4000000 in
theorem w_X3_energy_0 {r0 : Int32} (CX : wk_X p l e R s m args below meth c cells slots Q cX3_energy 4 RX3 wsX3_energy D y B Lk A 1 22) (RT : wk_Ri p l e R s m args below meth c cells slots Q cX3_energy D y B Lk A r0 MM) {v1 : Int32} {v2 : Int32} {M : wk_T} {H : Heap} {locs : List Loc} {ls : Array Slot} (h : f_X3_energy v1 v2 M = some (r0, MM)) (hl : lv_has ls 4 [(0, .ref (B 9 0 0)), (1, .int v1), (2, .int v2)]) (hP : wk_H D y B Lk M H) (hS : va_S A s.heap H locs) : W p l e R s m args below meth c H locs cells slots Q (F0 m 0 ls []) := by
  obtain ⟨⟨hx, hb, hml, hown, hts⟩, hK, hI, hL, hA, hfr, hlo, hcs⟩ := id CX
  obtain ⟨q1, q2, q3⟩ := q_X3_energy hts
  unfold f_X3_energy at h
  refine lv_aload_n hx hb dX3_energy_0 rfl (lv_at hl 0 rfl) ?_
  refine wk_get (ref := "WokenRooms") (C := RX3) (T := TX3) (N := 5) (ci := 3) (v := .ref (B 0 0 0)) hx hb hts (fun _ h => List.mem_cons_of_mem _ (List.mem_append_left _ (List.mem_append_left _ (List.mem_append_right _ h)))) hown hK hP (wk_l9 hL 9 (by decide) (by decide)) wk_c9 rfl 0 (by decide) q1 rfl rfl dX3_energy_1 ?_
  refine lv_iload_n hx hb dX3_energy_4 rfl (lv_at hl 1 rfl) ?_
  obtain ⟨r1, M2, er1, h⟩ := wk_cl_e h
  refine wk_cVi (As := [.int v1]) (rest := []) ⟨hx, hb, hml, hown, hts⟩ (m_X0_hasRoom l hI hL (by decide) er1) (cwV 1 hts gX3_energy_X0_hasRoom rfl rfl rfl (by decide +kernel) ⟨Nat.le_trans (by decide) hfr, Nat.le_trans (by decide) hlo⟩) hK hP hS hA (wk_l0 hL (by decide) 0 (by decide)) wk_c0 rfl rfl hl.1 (lv_room (Nat.le_of_ble_eq_true rfl)) hcs dX3_energy_5 (fun H locs hP hS => ?_)
  refine lv_if_eq (tgt := 20) hx hb dX3_energy_8 (by decide) (fun g3 => ?_) (fun g3 => ?_)
  · have h := wk_p g3 h
    refine lv_iconst (v := (-1)) hx hb dX3_energy_20 (by decide) ?_
    exact RT _ _ _ _ _ _ h hP hS dX3_energy_21
  · have h := wk_n g3 h
    refine lv_iload_n hx hb dX3_energy_11 rfl (lv_at hl 2 rfl) ?_
    refine lv_iconst (v := 0) hx hb dX3_energy_12 (by decide) ?_
    refine lv_iconst (v := 4) hx hb dX3_energy_13 (by decide) ?_
    obtain ⟨r4, M5, er4, h⟩ := wk_cl_e h
    refine wk_cSi (As := [.int v2, .int 0, .int 4]) (rest := []) ⟨hx, hb, hml, hown, hts⟩ (m_X3_outside l hI hL er4) (va_cwS 3 hts gX3_energy_X3_outside rfl rfl rfl (by decide +kernel) ⟨Nat.le_trans (by decide) hfr, Nat.le_trans (by decide) hlo⟩) hK hP hS hA rfl hl.1 (lv_room (Nat.le_of_ble_eq_true rfl)) hcs dX3_energy_14 (fun H locs hP hS => ?_)
    refine lv_if_eq (tgt := 22) hx hb dX3_energy_17 (by decide) (fun g6 => ?_) (fun g6 => ?_)
    · have h := wk_p g6 h
      refine lv_aload_n hx hb dX3_energy_22 rfl (lv_at hl 0 rfl) ?_
      refine wk_get (ref := "WokenRooms") (C := RX3) (T := TX3) (N := 5) (ci := 3) (v := .ref (B 0 0 0)) hx hb hts (fun _ h => List.mem_cons_of_mem _ (List.mem_append_left _ (List.mem_append_left _ (List.mem_append_right _ h)))) hown hK hP (wk_l9 hL 9 (by decide) (by decide)) wk_c9 rfl 0 (by decide) q1 rfl rfl dX3_energy_23 ?_
      refine wk_get (ref := "WokenRooms$Chip") (C := RX0) (T := TX0) (N := 8) (ci := 0) (v := .ref (B 1 0 0)) hx hb hts (fun _ h => List.mem_cons_of_mem _ (List.mem_append_left _ (List.mem_append_right _ h))) hown hK hP (wk_l0 hL (by decide) 0 (by decide)) wk_c0 rfl 0 (by decide) q2 rfl rfl dX3_energy_26 ?_
      refine lv_iload_n hx hb dX3_energy_29 rfl (lv_at hl 1 rfl) ?_
      obtain ⟨g7, h⟩ := wk_gd_e h
      refine wk_aaldR (j := v1.toNatClampNeg) hx hb hK hP (wk_l0 hL (by decide) 1 (by decide)) g7 rfl dX3_energy_30 ?_
      refine lv_astore_n (lv' := [(3, .ref (B 6 0 v1.toNatClampNeg)), (0, .ref (B 9 0 0)), (1, .int v1), (2, .int v2)]) hx hb dX3_energy_31 rfl hl (by decide) rfl (fun ls hl => ?_)
      refine lv_iload_n hx hb dX3_energy_32 rfl (lv_at hl 3 rfl) ?_
      refine lv_iconst (v := 4) hx hb dX3_energy_33 (by decide) ?_
      refine lv_icmp_ne (tgt := 44) hx hb dX3_energy_34 (by decide) (fun g8 => ?_) (fun g8 => ?_)
      · have h := wk_n g8 h
        refine lv_aload_n hx hb dX3_energy_44 rfl (lv_at hl 0 rfl) ?_
        refine wk_get (ref := "WokenRooms$Room") (C := RX2) (T := TX2) (N := 15) (ci := 2) (v := .ref (B 8 0 v1.toNatClampNeg)) hx hb hts (fun _ h => List.mem_cons_of_mem _ (List.mem_append_right _ h)) hown hK hP (wk_l6 hL (by decide) (wk_ix g7) 6 (by decide) (by decide)) wk_c6 rfl 1 (by decide) q3 rfl rfl dX3_energy_45 ?_
        refine lv_iload_n hx hb dX3_energy_48 rfl (lv_at hl 3 rfl) ?_
        obtain ⟨g9, h⟩ := wk_gd_e h
        refine wk_iald (j := v2.toNatClampNeg) hx hb hK hP (wk_l6 hL (by decide) (wk_ix g7) 8 (by decide) (by decide)) wk_c8 g9 rfl dX3_energy_49 ?_
        exact RT _ _ _ _ _ _ h hP hS dX3_energy_50
      · have h := wk_p g8 h
        refine lv_aload_n hx hb dX3_energy_37 rfl (lv_at hl 0 rfl) ?_
        obtain ⟨r10, M11, er10, h⟩ := wk_cl_e h
        refine wk_cVi (As := []) (rest := []) ⟨hx, hb, hml, hown, hts⟩ (m_X2_paidInAll l hI hL (by decide) (wk_ix g7) er10) (cwV 0 hts gX3_energy_X2_paidInAll rfl rfl rfl (by decide +kernel) ⟨Nat.le_trans (by decide) hfr, Nat.le_trans (by decide) hlo⟩) hK hP hS hA (wk_l6 hL (by decide) (wk_ix g7) 6 (by decide) (by decide)) wk_c6 rfl rfl hl.1 (lv_room (Nat.le_of_ble_eq_true rfl)) hcs dX3_energy_38 (fun H locs hP hS => ?_)
        refine lv_goto (tgt := 50) hx hb dX3_energy_41 (by decide) ?_
        exact RT _ _ _ _ _ _ h hP hS dX3_energy_50
    · have h := wk_n g6 h
      refine lv_iconst (v := (-1)) hx hb dX3_energy_20 (by decide) ?_
      exact RT _ _ _ _ _ _ h hP hS dX3_energy_21
set_option maxRecDepth 100000 in
set_option maxHeartbeats 4000000 in
theorem m_X3_energy (l : Launch) {D : va_G} {y : Nat → ClassId} {B : Nat → Nat → Nat → Nat} {Lk : Nat → Nat → Nat → Prop} (hI : wk_I B Lk) (hL : wk_L Lk) {v1 : Int32} {v2 : Int32} {M : wk_T} {r0 : Int32} {MM : wk_T} (hf : f_X3_energy v1 v2 M = some (r0, MM)) : wk_Mi l yX3_energy wsX3_energy 1 22 D y B Lk [.ref (B 9 0 0), .int v1, .int v2] M r0 MM :=
  wk_ofI (own := RX3) (bytes := cX3_energy) (maxL := 4) (ret := some .int) (by decide +kernel) rfl rfl (Or.inl rfl) (Nat.le_of_ble_eq_true rfl) hI hL (fun p e s m args below meth c ls CX RTi RTz hl hP hS => w_X3_energy_0 CX (RTi rfl) hf hl hP hS)
def f_X3_count (v1 : Int32) (M : wk_T) : Option (Int32 × wk_T) := (if v1 = 10 then (some ((M 9 0 0 3), M)) else (if v1 = 11 then (some ((M 11 0 0 1), M)) else (if v1 = 20 then (some ((M 2 0 0 0), M)) else (if v1 = 21 then (some ((M 2 0 0 1), M)) else wk_cl (f_X3_outside v1 0 9 M) (fun r5 M6 => (if r5 = 0 then wk_cl (f_X0_tell 0 v1 M6) (fun r8 M9 => (some (r8, M9))) else (some ((-1), M6))))))))
set_option maxRecDepth 20000 in
theorem q_X3_count {s : State} {args : Array Value} (hts : ∀ w ∈ wsX3_count, w.before args s = true) : (Cond.fieldLink RX3 143 "WokenRooms" "historySize" "I").before args s = true ∧ (Cond.fieldLink RX3 26 "WokenRooms" "orders" "LWokenRooms$Orders;").before args s = true ∧ (Cond.fieldLink RX3 146 "WokenRooms$Orders" "length" "I").before args s = true ∧ (Cond.fieldLink RX3 10 "WokenRooms" "chip" "LWokenRooms$Chip;").before args s = true ∧ (Cond.fieldLink RX3 149 "WokenRooms$Chip" "limits" "[I").before args s = true := ⟨hts _ (List.mem_of_getElem? (i := 1) rfl), hts _ (List.mem_of_getElem? (i := 2) rfl), hts _ (List.mem_of_getElem? (i := 3) rfl), hts _ (List.mem_of_getElem? (i := 4) rfl), hts _ (List.mem_of_getElem? (i := 5) rfl)⟩
set_option maxRecDepth 100000 in
set_option maxHeartbeats 4000000 in
theorem w_X3_count_0 {r0 : Int32} (CX : wk_X p l e R s m args below meth c cells slots Q cX3_count 2 RX3 wsX3_count D y B Lk A 3 63) (RT : wk_Ri p l e R s m args below meth c cells slots Q cX3_count D y B Lk A r0 MM) {v1 : Int32} {M : wk_T} {H : Heap} {locs : List Loc} {ls : Array Slot} (h : f_X3_count v1 M = some (r0, MM)) (hl : lv_has ls 2 [(0, .ref (B 9 0 0)), (1, .int v1)]) (hP : wk_H D y B Lk M H) (hS : va_S A s.heap H locs) : W p l e R s m args below meth c H locs cells slots Q (F0 m 0 ls []) := by
  obtain ⟨⟨hx, hb, hml, hown, hts⟩, hK, hI, hL, hA, hfr, hlo, hcs⟩ := id CX
  obtain ⟨q1, q2, q3, q4, q5⟩ := q_X3_count hts
  unfold f_X3_count at h
  refine lv_iload_n hx hb dX3_count_0 rfl (lv_at hl 1 rfl) ?_
  by_cases g1 : v1 = 10
  · have h := wk_p g1 h
    refine lv_lookup (off := 43) (tgt := 44) hx hb dX3_count_1 (by decide) (by rw [g1]; decide) (by decide) ?_
    refine lv_aload_n hx hb dX3_count_44 rfl (lv_at hl 0 rfl) ?_
    refine wk_get (ref := "WokenRooms") (C := RX3) (T := TX3) (N := 5) (ci := 3) (v := .int (M 9 0 0 3)) hx hb hts (fun _ h => List.mem_cons_of_mem _ (List.mem_append_left _ (List.mem_append_left _ (List.mem_append_left _ (List.mem_append_right _ h))))) hown hK hP (wk_l9 hL 9 (by decide) (by decide)) wk_c9 rfl 3 (by decide) q1 rfl rfl dX3_count_45 ?_
    exact RT _ _ _ _ _ _ h hP hS dX3_count_48
  · have h := wk_n g1 h
    by_cases g2 : v1 = 11
    · have h := wk_p g2 h
      refine lv_lookup (off := 48) (tgt := 49) hx hb dX3_count_1 (by decide) (by rw [g2]; decide) (by decide) ?_
      refine lv_aload_n hx hb dX3_count_49 rfl (lv_at hl 0 rfl) ?_
      refine wk_get (ref := "WokenRooms") (C := RX3) (T := TX3) (N := 5) (ci := 3) (v := .ref (B 11 0 0)) hx hb hts (fun _ h => List.mem_cons_of_mem _ (List.mem_append_left _ (List.mem_append_left _ (List.mem_append_left _ (List.mem_append_right _ h))))) hown hK hP (wk_l9 hL 9 (by decide) (by decide)) wk_c9 rfl 4 (by decide) q2 rfl rfl dX3_count_50 ?_
      refine wk_get (ref := "WokenRooms$Orders") (C := RX1) (T := TX1) (N := 9) (ci := 1) (v := .int (M 11 0 0 1)) hx hb hts (fun _ h => List.mem_cons_of_mem _ (List.mem_append_left _ (List.mem_append_left _ (List.mem_append_right _ h)))) hown hK hP (wk_l9 hL 11 (by decide) (by decide)) wk_c11 rfl 1 (by decide) q3 rfl rfl dX3_count_53 ?_
      exact RT _ _ _ _ _ _ h hP hS dX3_count_56
    · have h := wk_n g2 h
      by_cases g3 : v1 = 20
      · have h := wk_p g3 h
        refine lv_lookup (off := 56) (tgt := 57) hx hb dX3_count_1 (by decide) (by rw [g3]; decide) (by decide) ?_
        refine lv_aload_n hx hb dX3_count_57 rfl (lv_at hl 0 rfl) ?_
        refine wk_get (ref := "WokenRooms") (C := RX3) (T := TX3) (N := 5) (ci := 3) (v := .ref (B 0 0 0)) hx hb hts (fun _ h => List.mem_cons_of_mem _ (List.mem_append_left _ (List.mem_append_left _ (List.mem_append_left _ (List.mem_append_right _ h))))) hown hK hP (wk_l9 hL 9 (by decide) (by decide)) wk_c9 rfl 0 (by decide) q4 rfl rfl dX3_count_58 ?_
        refine wk_get (ref := "WokenRooms$Chip") (C := RX0) (T := TX0) (N := 8) (ci := 0) (v := .ref (B 2 0 0)) hx hb hts (fun _ h => List.mem_cons_of_mem _ (List.mem_append_left _ (List.mem_append_right _ h))) hown hK hP (wk_l0 hL (by decide) 0 (by decide)) wk_c0 rfl 2 (by decide) q5 rfl rfl dX3_count_61 ?_
        refine lv_iconst (v := 0) hx hb dX3_count_64 (by decide) ?_
        refine wk_iald (j := 0) hx hb hK hP (wk_l0 hL (by decide) 2 (by decide)) wk_c2 (by decide) (by decide) dX3_count_65 ?_
        exact RT _ _ _ _ _ _ h hP hS dX3_count_66
      · have h := wk_n g3 h
        by_cases g4 : v1 = 21
        · have h := wk_p g4 h
          refine lv_lookup (off := 66) (tgt := 67) hx hb dX3_count_1 (by decide) (by rw [g4]; decide) (by decide) ?_
          refine lv_aload_n hx hb dX3_count_67 rfl (lv_at hl 0 rfl) ?_
          refine wk_get (ref := "WokenRooms") (C := RX3) (T := TX3) (N := 5) (ci := 3) (v := .ref (B 0 0 0)) hx hb hts (fun _ h => List.mem_cons_of_mem _ (List.mem_append_left _ (List.mem_append_left _ (List.mem_append_left _ (List.mem_append_right _ h))))) hown hK hP (wk_l9 hL 9 (by decide) (by decide)) wk_c9 rfl 0 (by decide) q4 rfl rfl dX3_count_68 ?_
          refine wk_get (ref := "WokenRooms$Chip") (C := RX0) (T := TX0) (N := 8) (ci := 0) (v := .ref (B 2 0 0)) hx hb hts (fun _ h => List.mem_cons_of_mem _ (List.mem_append_left _ (List.mem_append_right _ h))) hown hK hP (wk_l0 hL (by decide) 0 (by decide)) wk_c0 rfl 2 (by decide) q5 rfl rfl dX3_count_71 ?_
          refine lv_iconst (v := 1) hx hb dX3_count_74 (by decide) ?_
          refine wk_iald (j := 1) hx hb hK hP (wk_l0 hL (by decide) 2 (by decide)) wk_c2 (by decide) (by decide) dX3_count_75 ?_
          exact RT _ _ _ _ _ _ h hP hS dX3_count_76
        · have h := wk_n g4 h
          refine lv_lookup (off := 76) (tgt := 77) hx hb dX3_count_1 (by decide) (by show Op.lookupswitch.offset [(10, 43), (11, 48), (20, 56), (21, 66)] 76 _ = _; rw [lv_osw g1 (by decide), lv_osw g2 (by decide), lv_osw g3 (by decide), lv_osw g4 (by decide)]; rfl) (by decide) ?_
          refine lv_iload_n hx hb dX3_count_77 rfl (lv_at hl 1 rfl) ?_
          refine lv_iconst (v := 0) hx hb dX3_count_78 (by decide) ?_
          refine lv_bipush (v := 9) hx hb dX3_count_79 (by decide) ?_
          obtain ⟨r5, M6, er5, h⟩ := wk_cl_e h
          refine wk_cSi (As := [.int v1, .int 0, .int 9]) (rest := []) ⟨hx, hb, hml, hown, hts⟩ (m_X3_outside l hI hL er5) (va_cwS 3 hts gX3_count_X3_outside rfl rfl rfl (by decide +kernel) ⟨Nat.le_trans (by decide) hfr, Nat.le_trans (by decide) hlo⟩) hK hP hS hA rfl hl.1 (lv_room (Nat.le_of_ble_eq_true rfl)) hcs dX3_count_81 (fun H locs hP hS => ?_)
          refine lv_if_eq (tgt := 91) hx hb dX3_count_84 (by decide) (fun g7 => ?_) (fun g7 => ?_)
          · have h := wk_p g7 h
            refine lv_aload_n hx hb dX3_count_91 rfl (lv_at hl 0 rfl) ?_
            refine wk_get (ref := "WokenRooms") (C := RX3) (T := TX3) (N := 5) (ci := 3) (v := .ref (B 0 0 0)) hx hb hts (fun _ h => List.mem_cons_of_mem _ (List.mem_append_left _ (List.mem_append_left _ (List.mem_append_left _ (List.mem_append_right _ h))))) hown hK hP (wk_l9 hL 9 (by decide) (by decide)) wk_c9 rfl 0 (by decide) q4 rfl rfl dX3_count_92 ?_
            refine lv_iload_n hx hb dX3_count_95 rfl (lv_at hl 1 rfl) ?_
            obtain ⟨r8, M9, er8, h⟩ := wk_cl_e h
            refine wk_cVi (As := [.int v1]) (rest := []) ⟨hx, hb, hml, hown, hts⟩ (m_X0_tell l hI hL (by decide) er8) (cwV 1 hts gX3_count_X0_tell rfl rfl rfl (by decide +kernel) ⟨Nat.le_trans (by decide) hfr, Nat.le_trans (by decide) hlo⟩) hK hP hS hA (wk_l0 hL (by decide) 0 (by decide)) wk_c0 rfl rfl hl.1 (lv_room (Nat.le_of_ble_eq_true rfl)) hcs dX3_count_96 (fun H locs hP hS => ?_)
            exact RT _ _ _ _ _ _ h hP hS dX3_count_99
          · have h := wk_n g7 h
            refine lv_iconst (v := (-1)) hx hb dX3_count_87 (by decide) ?_
            refine lv_goto (tgt := 99) hx hb dX3_count_88 (by decide) ?_
            exact RT _ _ _ _ _ _ h hP hS dX3_count_99
set_option maxRecDepth 100000 in
set_option maxHeartbeats 4000000 in
theorem m_X3_count (l : Launch) {D : va_G} {y : Nat → ClassId} {B : Nat → Nat → Nat → Nat} {Lk : Nat → Nat → Nat → Prop} (hI : wk_I B Lk) (hL : wk_L Lk) {v1 : Int32} {M : wk_T} {r0 : Int32} {MM : wk_T} (hf : f_X3_count v1 M = some (r0, MM)) : wk_Mi l yX3_count wsX3_count 3 63 D y B Lk [.ref (B 9 0 0), .int v1] M r0 MM :=
  wk_ofI (own := RX3) (bytes := cX3_count) (maxL := 2) (ret := some .int) (by decide +kernel) rfl rfl (Or.inl rfl) (Nat.le_of_ble_eq_true rfl) hI hL (fun p e s m args below meth c ls CX RTi RTz hl hP hS => w_X3_count_0 CX (RTi rfl) hf hl hP hS)
end WP15
