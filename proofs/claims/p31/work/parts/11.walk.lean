/-! walks by program: X3_outside, X2_startAnew, X2_copyFrom, X2_tell, X2_paidInAll, X2_startWaking, X2_begin, X2_isGuessedByGap, X2_payForTick, X2_workOn, X2_isTimedOut -/
section WP11
variable {p : Program} {l : Launch} {e : Env} {R : Room} {s : State} {m : MethodId} {args : Array Value} {below : List Frame} {meth : Method} {c : Code} {cells slots : Nat} {Q : State → Prop}
variable {D : va_G} {y : Nat → ClassId} {B : Nat → Nat → Nat → Nat} {Lk : Nat → Nat → Nat → Prop} {A : Nat → Prop} {MM : wk_T}
def f_X3_outside (v0 : Int32) (v1 : Int32) (v2 : Int32) (M : wk_T) : Option (Int32 × wk_T) := (if v0 < v1 then (some (1, M)) else (if v0 ≤ v2 then (some (0, M)) else (some (1, M))))
set_option maxRecDepth 100000 in
set_option maxHeartbeats 4000000 in
theorem w_X3_outside_0 {r0 : Int32} (CX : wk_X p l e R s m args below meth c cells slots Q cX3_outside 3 RX3 wsX3_outside D y B Lk A 0 0) (RT : wk_Rz p l e R s m args below meth c cells slots Q cX3_outside D y B Lk A r0 MM) {v0 : Int32} {v1 : Int32} {v2 : Int32} {M : wk_T} {H : Heap} {locs : List Loc} {ls : Array Slot} (h : f_X3_outside v0 v1 v2 M = some (r0, MM)) (hl : lv_has ls 3 [(0, .int v0), (1, .int v1), (2, .int v2)]) (hP : wk_H D y B Lk M H) (hS : va_S A s.heap H locs) : W p l e R s m args below meth c H locs cells slots Q (F0 m 0 ls []) := by
  obtain ⟨⟨hx, hb, hml, hown, hts⟩, hK, hI, hL, hA, hfr, hlo, hcs⟩ := id CX
  unfold f_X3_outside at h
  refine lv_iload_n hx hb dX3_outside_0 rfl (lv_at hl 0 rfl) ?_
  refine lv_iload_n hx hb dX3_outside_1 rfl (lv_at hl 1 rfl) ?_
  refine lv_icmp_lt (tgt := 10) hx hb dX3_outside_2 (by decide) (fun g1 => ?_) (fun g1 => ?_)
  · have h := wk_p g1 h
    refine lv_iconst (v := 1) hx hb dX3_outside_10 (by decide) ?_
    refine lv_goto (tgt := 15) hx hb dX3_outside_11 (by decide) ?_
    exact RT _ _ _ _ _ _ (Or.inr rfl) h hP hS dX3_outside_15
  · have h := wk_n g1 h
    refine lv_iload_n hx hb dX3_outside_5 rfl (lv_at hl 0 rfl) ?_
    refine lv_iload_n hx hb dX3_outside_6 rfl (lv_at hl 2 rfl) ?_
    refine lv_icmp_le (tgt := 14) hx hb dX3_outside_7 (by decide) (fun g2 => ?_) (fun g2 => ?_)
    · have h := wk_p g2 h
      refine lv_iconst (v := 0) hx hb dX3_outside_14 (by decide) ?_
      exact RT _ _ _ _ _ _ (Or.inl rfl) h hP hS dX3_outside_15
    · have h := wk_n g2 h
      refine lv_iconst (v := 1) hx hb dX3_outside_10 (by decide) ?_
      refine lv_goto (tgt := 15) hx hb dX3_outside_11 (by decide) ?_
      exact RT _ _ _ _ _ _ (Or.inr rfl) h hP hS dX3_outside_15
set_option maxRecDepth 100000 in
set_option maxHeartbeats 4000000 in
theorem m_X3_outside (l : Launch) {D : va_G} {y : Nat → ClassId} {B : Nat → Nat → Nat → Nat} {Lk : Nat → Nat → Nat → Prop} (hI : wk_I B Lk) (hL : wk_L Lk) {v0 : Int32} {v1 : Int32} {v2 : Int32} {M : wk_T} {r0 : Int32} {MM : wk_T} (hf : f_X3_outside v0 v1 v2 M = some (r0, MM)) : wk_Mi l yX3_outside wsX3_outside 0 0 D y B Lk [.int v0, .int v1, .int v2] M r0 MM :=
  wk_ofI (own := RX3) (bytes := cX3_outside) (maxL := 3) (ret := some .boolean) (by decide +kernel) rfl rfl (Or.inr rfl) (Nat.le_of_ble_eq_true rfl) hI hL (fun p e s m args below meth c ls CX RTi RTz hl hP hS => w_X3_outside_0 CX (RTz rfl) hf hl hP hS)
def f_X2_startAnew_2 (ch : Nat) (ri : Nat) : Nat → Int32 → Int32 → wk_T → Option (Unit × wk_T)
  | 0, _, _, _ => none
  | n + 1, v1, v2, M => (if 4 ≤ v2 then wk_mu (wk_up M 6 ch ri 2 v1) (fun M2 => wk_mu (wk_up M2 6 ch ri 3 (-1)) (fun M3 => wk_mu (wk_up M3 6 ch ri 4 (-1)) (fun M4 => wk_mu (wk_up M4 6 ch ri 5 0) (fun M5 => wk_mu (wk_up M5 6 ch ri 6 0) (fun M6 => wk_mu (wk_up M6 6 ch ri 7 0) (fun M7 => wk_mu (wk_up M7 6 ch ri 8 0) (fun M8 => wk_mu (wk_up M8 6 ch ri 9 0) (fun M9 => wk_mu (wk_up M9 6 ch ri 10 0) (fun M10 => wk_mu (wk_up M10 6 ch ri 11 0) (fun M11 => wk_mu (wk_up M11 6 ch ri 12 0) (fun M12 => wk_mu (wk_up M12 6 ch ri 13 0) (fun M13 => wk_mu (wk_up M13 6 ch ri 14 0) (fun M14 => (some ((), M14))))))))))))))) else wk_gd (¬ (v2 < 0 ∨ 4 ≤ v2.toNatClampNeg)) (wk_mu (wk_up M 8 ch ri (v2.toNatClampNeg) 0) (fun M16 => wk_lt (v2 + 1) (fun x17 => (f_X2_startAnew_2 ch ri n v1 x17 M16)))))
def f_X2_startAnew (ch : Nat) (ri : Nat) (v1 : Int32) (M : wk_T) : Option (Unit × wk_T) := (f_X2_startAnew_2 ch ri wk_fuel v1 0 M)
set_option maxRecDepth 20000 in
theorem q_X2_startAnew {s : State} {args : Array Value} (hts : ∀ w ∈ wsX2_startAnew, w.before args s = true) : (Cond.fieldLink RX2 15 "WokenRooms$Room" "paid" "[I").before args s = true ∧ (Cond.fieldLink RX2 18 "WokenRooms$Room" "kind" "I").before args s = true ∧ (Cond.fieldLink RX2 22 "WokenRooms$Room" "needed" "I").before args s = true ∧ (Cond.fieldLink RX2 25 "WokenRooms$Room" "rail" "I").before args s = true ∧ (Cond.fieldLink RX2 28 "WokenRooms$Room" "timeOut" "I").before args s = true ∧ (Cond.fieldLink RX2 31 "WokenRooms$Room" "guess" "I").before args s = true ∧ (Cond.fieldLink RX2 34 "WokenRooms$Room" "state" "I").before args s = true ∧ (Cond.fieldLink RX2 37 "WokenRooms$Room" "left" "I").before args s = true ∧ (Cond.fieldLink RX2 40 "WokenRooms$Room" "idled" "I").before args s = true ∧ (Cond.fieldLink RX2 43 "WokenRooms$Room" "begun" "I").before args s = true ∧ (Cond.fieldLink RX2 46 "WokenRooms$Room" "late" "I").before args s = true ∧ (Cond.fieldLink RX2 49 "WokenRooms$Room" "woken" "I").before args s = true ∧ (Cond.fieldLink RX2 52 "WokenRooms$Room" "latestEnd" "I").before args s = true ∧ (Cond.fieldLink RX2 55 "WokenRooms$Room" "gap" "I").before args s = true := ⟨hts _ (List.mem_of_getElem? (i := 1) rfl), hts _ (List.mem_of_getElem? (i := 2) rfl), hts _ (List.mem_of_getElem? (i := 3) rfl), hts _ (List.mem_of_getElem? (i := 4) rfl), hts _ (List.mem_of_getElem? (i := 5) rfl), hts _ (List.mem_of_getElem? (i := 6) rfl), hts _ (List.mem_of_getElem? (i := 7) rfl), hts _ (List.mem_of_getElem? (i := 8) rfl), hts _ (List.mem_of_getElem? (i := 9) rfl), hts _ (List.mem_of_getElem? (i := 10) rfl), hts _ (List.mem_of_getElem? (i := 11) rfl), hts _ (List.mem_of_getElem? (i := 12) rfl), hts _ (List.mem_of_getElem? (i := 13) rfl), hts _ (List.mem_of_getElem? (i := 14) rfl)⟩
set_option maxRecDepth 100000 in
set_option maxHeartbeats 4000000 in
theorem w_X2_startAnew_2 {ch : Nat} {ri : Nat} (CX : wk_X p l e R s m args below meth c cells slots Q cX2_startAnew 3 RX2 wsX2_startAnew D y B Lk A 0 0) (RT : wk_Rv p l e R s m args below meth c cells slots Q cX2_startAnew D y B Lk A MM) (hc : ch < 7) (hi : ri < 8) : ∀ (n : Nat) (v1 : Int32) (v2 : Int32) (M : wk_T) (H : Heap) (locs : List Loc) (ls : Array Slot), f_X2_startAnew_2 ch ri n v1 v2 M = some ((), MM) → lv_has ls 3 [(0, .ref (B 6 ch ri)), (1, .int v1), (2, .int v2)] → wk_H D y B Lk M H → va_S A s.heap H locs → W p l e R s m args below meth c H locs cells slots Q (F0 m 2 ls []) := by
  obtain ⟨⟨hx, hb, hml, hown, hts⟩, hK, hI, hL, hA, hfr, hlo, hcs⟩ := id CX
  obtain ⟨q1, q2, q3, q4, q5, q6, q7, q8, q9, q10, q11, q12, q13, q14⟩ := q_X2_startAnew hts
  intro n
  induction n with
  | zero =>
    intro v1 v2 M H locs ls h
    exact absurd h (by rw [f_X2_startAnew_2]; exact fun z => nomatch z)
  | succ n ih =>
    intro v1 v2 M H locs ls h hl hP hS
    rw [f_X2_startAnew_2] at h
    refine lv_iload_n hx hb dX2_startAnew_2 rfl (lv_at hl 2 rfl) ?_
    refine lv_iconst (v := 4) hx hb dX2_startAnew_3 (by decide) ?_
    refine lv_icmp_ge (tgt := 20) hx hb dX2_startAnew_4 (by decide) (fun g1 => ?_) (fun g1 => ?_)
    · have h := wk_p g1 h
      refine lv_aload_n hx hb dX2_startAnew_20 rfl (lv_at hl 0 rfl) ?_
      refine lv_iload_n hx hb dX2_startAnew_21 rfl (lv_at hl 1 rfl) ?_
      obtain ⟨M2, eM2, h⟩ := wk_mu_e h
      refine wk_put (ref := "WokenRooms$Room") (C := RX2) (T := TX2) (N := 15) (ci := 2) hx hb hts (fun _ h => List.mem_cons_of_mem _ (List.mem_append_right _ h)) tyX2 tyX2_ok nmX2 hown hK hP hI hS hA (wk_l6 hL hc hi 6 (by decide) (by decide)) wk_c6 rfl 2 (by decide) q2 rfl rfl (by decide +kernel) (Nat.le_of_ble_eq_true rfl) (by rfl) dX2_startAnew_22 (fun H locs hP hS => ?_)
      rw [eM2] at hP
      refine lv_aload_n hx hb dX2_startAnew_25 rfl (lv_at hl 0 rfl) ?_
      refine lv_iconst (v := (-1)) hx hb dX2_startAnew_26 (by decide) ?_
      obtain ⟨M3, eM3, h⟩ := wk_mu_e h
      refine wk_put (ref := "WokenRooms$Room") (C := RX2) (T := TX2) (N := 15) (ci := 2) hx hb hts (fun _ h => List.mem_cons_of_mem _ (List.mem_append_right _ h)) tyX2 tyX2_ok nmX2 hown hK hP hI hS hA (wk_l6 hL hc hi 6 (by decide) (by decide)) wk_c6 rfl 3 (by decide) q3 rfl rfl (by decide +kernel) (Nat.le_of_ble_eq_true rfl) (by rfl) dX2_startAnew_27 (fun H locs hP hS => ?_)
      rw [eM3] at hP
      refine lv_aload_n hx hb dX2_startAnew_30 rfl (lv_at hl 0 rfl) ?_
      refine lv_iconst (v := (-1)) hx hb dX2_startAnew_31 (by decide) ?_
      obtain ⟨M4, eM4, h⟩ := wk_mu_e h
      refine wk_put (ref := "WokenRooms$Room") (C := RX2) (T := TX2) (N := 15) (ci := 2) hx hb hts (fun _ h => List.mem_cons_of_mem _ (List.mem_append_right _ h)) tyX2 tyX2_ok nmX2 hown hK hP hI hS hA (wk_l6 hL hc hi 6 (by decide) (by decide)) wk_c6 rfl 4 (by decide) q4 rfl rfl (by decide +kernel) (Nat.le_of_ble_eq_true rfl) (by rfl) dX2_startAnew_32 (fun H locs hP hS => ?_)
      rw [eM4] at hP
      refine lv_aload_n hx hb dX2_startAnew_35 rfl (lv_at hl 0 rfl) ?_
      refine lv_iconst (v := 0) hx hb dX2_startAnew_36 (by decide) ?_
      obtain ⟨M5, eM5, h⟩ := wk_mu_e h
      refine wk_put (ref := "WokenRooms$Room") (C := RX2) (T := TX2) (N := 15) (ci := 2) hx hb hts (fun _ h => List.mem_cons_of_mem _ (List.mem_append_right _ h)) tyX2 tyX2_ok nmX2 hown hK hP hI hS hA (wk_l6 hL hc hi 6 (by decide) (by decide)) wk_c6 rfl 5 (by decide) q5 rfl rfl (by decide +kernel) (Nat.le_of_ble_eq_true rfl) (by rfl) dX2_startAnew_37 (fun H locs hP hS => ?_)
      rw [eM5] at hP
      refine lv_aload_n hx hb dX2_startAnew_40 rfl (lv_at hl 0 rfl) ?_
      refine lv_iconst (v := 0) hx hb dX2_startAnew_41 (by decide) ?_
      obtain ⟨M6, eM6, h⟩ := wk_mu_e h
      refine wk_put (ref := "WokenRooms$Room") (C := RX2) (T := TX2) (N := 15) (ci := 2) hx hb hts (fun _ h => List.mem_cons_of_mem _ (List.mem_append_right _ h)) tyX2 tyX2_ok nmX2 hown hK hP hI hS hA (wk_l6 hL hc hi 6 (by decide) (by decide)) wk_c6 rfl 6 (by decide) q6 rfl rfl (by decide +kernel) (Nat.le_of_ble_eq_true rfl) (by rfl) dX2_startAnew_42 (fun H locs hP hS => ?_)
      rw [eM6] at hP
      refine lv_aload_n hx hb dX2_startAnew_45 rfl (lv_at hl 0 rfl) ?_
      refine lv_iconst (v := 0) hx hb dX2_startAnew_46 (by decide) ?_
      obtain ⟨M7, eM7, h⟩ := wk_mu_e h
      refine wk_put (ref := "WokenRooms$Room") (C := RX2) (T := TX2) (N := 15) (ci := 2) hx hb hts (fun _ h => List.mem_cons_of_mem _ (List.mem_append_right _ h)) tyX2 tyX2_ok nmX2 hown hK hP hI hS hA (wk_l6 hL hc hi 6 (by decide) (by decide)) wk_c6 rfl 7 (by decide) q7 rfl rfl (by decide +kernel) (Nat.le_of_ble_eq_true rfl) (by rfl) dX2_startAnew_47 (fun H locs hP hS => ?_)
      rw [eM7] at hP
      refine lv_aload_n hx hb dX2_startAnew_50 rfl (lv_at hl 0 rfl) ?_
      refine lv_iconst (v := 0) hx hb dX2_startAnew_51 (by decide) ?_
      obtain ⟨M8, eM8, h⟩ := wk_mu_e h
      refine wk_put (ref := "WokenRooms$Room") (C := RX2) (T := TX2) (N := 15) (ci := 2) hx hb hts (fun _ h => List.mem_cons_of_mem _ (List.mem_append_right _ h)) tyX2 tyX2_ok nmX2 hown hK hP hI hS hA (wk_l6 hL hc hi 6 (by decide) (by decide)) wk_c6 rfl 8 (by decide) q8 rfl rfl (by decide +kernel) (Nat.le_of_ble_eq_true rfl) (by rfl) dX2_startAnew_52 (fun H locs hP hS => ?_)
      rw [eM8] at hP
      refine lv_aload_n hx hb dX2_startAnew_55 rfl (lv_at hl 0 rfl) ?_
      refine lv_iconst (v := 0) hx hb dX2_startAnew_56 (by decide) ?_
      obtain ⟨M9, eM9, h⟩ := wk_mu_e h
      refine wk_put (ref := "WokenRooms$Room") (C := RX2) (T := TX2) (N := 15) (ci := 2) hx hb hts (fun _ h => List.mem_cons_of_mem _ (List.mem_append_right _ h)) tyX2 tyX2_ok nmX2 hown hK hP hI hS hA (wk_l6 hL hc hi 6 (by decide) (by decide)) wk_c6 rfl 9 (by decide) q9 rfl rfl (by decide +kernel) (Nat.le_of_ble_eq_true rfl) (by rfl) dX2_startAnew_57 (fun H locs hP hS => ?_)
      rw [eM9] at hP
      refine lv_aload_n hx hb dX2_startAnew_60 rfl (lv_at hl 0 rfl) ?_
      refine lv_iconst (v := 0) hx hb dX2_startAnew_61 (by decide) ?_
      obtain ⟨M10, eM10, h⟩ := wk_mu_e h
      refine wk_put (ref := "WokenRooms$Room") (C := RX2) (T := TX2) (N := 15) (ci := 2) hx hb hts (fun _ h => List.mem_cons_of_mem _ (List.mem_append_right _ h)) tyX2 tyX2_ok nmX2 hown hK hP hI hS hA (wk_l6 hL hc hi 6 (by decide) (by decide)) wk_c6 rfl 10 (by decide) q10 rfl rfl (by decide +kernel) (Nat.le_of_ble_eq_true rfl) (by rfl) dX2_startAnew_62 (fun H locs hP hS => ?_)
      rw [eM10] at hP
      refine lv_aload_n hx hb dX2_startAnew_65 rfl (lv_at hl 0 rfl) ?_
      refine lv_iconst (v := 0) hx hb dX2_startAnew_66 (by decide) ?_
      obtain ⟨M11, eM11, h⟩ := wk_mu_e h
      refine wk_put (ref := "WokenRooms$Room") (C := RX2) (T := TX2) (N := 15) (ci := 2) hx hb hts (fun _ h => List.mem_cons_of_mem _ (List.mem_append_right _ h)) tyX2 tyX2_ok nmX2 hown hK hP hI hS hA (wk_l6 hL hc hi 6 (by decide) (by decide)) wk_c6 rfl 11 (by decide) q11 rfl rfl (by decide +kernel) (Nat.le_of_ble_eq_true rfl) (by rfl) dX2_startAnew_67 (fun H locs hP hS => ?_)
      rw [eM11] at hP
      refine lv_aload_n hx hb dX2_startAnew_70 rfl (lv_at hl 0 rfl) ?_
      refine lv_iconst (v := 0) hx hb dX2_startAnew_71 (by decide) ?_
      obtain ⟨M12, eM12, h⟩ := wk_mu_e h
      refine wk_put (ref := "WokenRooms$Room") (C := RX2) (T := TX2) (N := 15) (ci := 2) hx hb hts (fun _ h => List.mem_cons_of_mem _ (List.mem_append_right _ h)) tyX2 tyX2_ok nmX2 hown hK hP hI hS hA (wk_l6 hL hc hi 6 (by decide) (by decide)) wk_c6 rfl 12 (by decide) q12 rfl rfl (by decide +kernel) (Nat.le_of_ble_eq_true rfl) (by rfl) dX2_startAnew_72 (fun H locs hP hS => ?_)
      rw [eM12] at hP
      refine lv_aload_n hx hb dX2_startAnew_75 rfl (lv_at hl 0 rfl) ?_
      refine lv_iconst (v := 0) hx hb dX2_startAnew_76 (by decide) ?_
      obtain ⟨M13, eM13, h⟩ := wk_mu_e h
      refine wk_put (ref := "WokenRooms$Room") (C := RX2) (T := TX2) (N := 15) (ci := 2) hx hb hts (fun _ h => List.mem_cons_of_mem _ (List.mem_append_right _ h)) tyX2 tyX2_ok nmX2 hown hK hP hI hS hA (wk_l6 hL hc hi 6 (by decide) (by decide)) wk_c6 rfl 13 (by decide) q13 rfl rfl (by decide +kernel) (Nat.le_of_ble_eq_true rfl) (by rfl) dX2_startAnew_77 (fun H locs hP hS => ?_)
      rw [eM13] at hP
      refine lv_aload_n hx hb dX2_startAnew_80 rfl (lv_at hl 0 rfl) ?_
      refine lv_iconst (v := 0) hx hb dX2_startAnew_81 (by decide) ?_
      obtain ⟨M14, eM14, h⟩ := wk_mu_e h
      refine wk_put (ref := "WokenRooms$Room") (C := RX2) (T := TX2) (N := 15) (ci := 2) hx hb hts (fun _ h => List.mem_cons_of_mem _ (List.mem_append_right _ h)) tyX2 tyX2_ok nmX2 hown hK hP hI hS hA (wk_l6 hL hc hi 6 (by decide) (by decide)) wk_c6 rfl 14 (by decide) q14 rfl rfl (by decide +kernel) (Nat.le_of_ble_eq_true rfl) (by rfl) dX2_startAnew_82 (fun H locs hP hS => ?_)
      rw [eM14] at hP
      exact RT _ _ _ _ _ h hP hS dX2_startAnew_85
    · have h := wk_n g1 h
      refine lv_aload_n hx hb dX2_startAnew_7 rfl (lv_at hl 0 rfl) ?_
      refine wk_get (ref := "WokenRooms$Room") (C := RX2) (T := TX2) (N := 15) (ci := 2) (v := .ref (B 8 ch ri)) hx hb hts (fun _ h => List.mem_cons_of_mem _ (List.mem_append_right _ h)) hown hK hP (wk_l6 hL hc hi 6 (by decide) (by decide)) wk_c6 rfl 1 (by decide) q1 rfl rfl dX2_startAnew_8 ?_
      refine lv_iload_n hx hb dX2_startAnew_11 rfl (lv_at hl 2 rfl) ?_
      refine lv_iconst (v := 0) hx hb dX2_startAnew_12 (by decide) ?_
      obtain ⟨g15, h⟩ := wk_gd_e h
      obtain ⟨M16, eM16, h⟩ := wk_mu_e h
      refine wk_iast (j := v2.toNatClampNeg) hx hb hK hP hI hS hA (wk_l6 hL hc hi 8 (by decide) (by decide)) wk_c8 g15 rfl (by rfl) dX2_startAnew_13 (fun H locs hP hS => ?_)
      rw [eM16] at hP
      obtain ⟨x17, ex17, h⟩ := wk_lt_e h
      refine lv_iinc (v := x17) (lv' := [(2, .int x17), (0, .ref (B 6 ch ri)), (1, .int v1)]) hx hb dX2_startAnew_14 hl (k := 2) rfl (by rw [← ex17]; rfl) (by decide) rfl (fun ls hl => ?_)
      refine lv_goto (tgt := 2) hx hb dX2_startAnew_17 (by decide) ?_
      exact ih _ _ _ _ _ _ h (lv_sub hl [1, 2, 0] rfl) hP hS
set_option maxRecDepth 100000 in
set_option maxHeartbeats 4000000 in
theorem w_X2_startAnew_0 {ch : Nat} {ri : Nat} (CX : wk_X p l e R s m args below meth c cells slots Q cX2_startAnew 3 RX2 wsX2_startAnew D y B Lk A 0 0) (RT : wk_Rv p l e R s m args below meth c cells slots Q cX2_startAnew D y B Lk A MM) (hc : ch < 7) (hi : ri < 8) {v1 : Int32} {M : wk_T} {H : Heap} {locs : List Loc} {ls : Array Slot} (h : f_X2_startAnew ch ri v1 M = some ((), MM)) (hl : lv_has ls 3 [(0, .ref (B 6 ch ri)), (1, .int v1)]) (hP : wk_H D y B Lk M H) (hS : va_S A s.heap H locs) : W p l e R s m args below meth c H locs cells slots Q (F0 m 0 ls []) := by
  obtain ⟨⟨hx, hb, hml, hown, hts⟩, hK, hI, hL, hA, hfr, hlo, hcs⟩ := id CX
  obtain ⟨q1, q2, q3, q4, q5, q6, q7, q8, q9, q10, q11, q12, q13, q14⟩ := q_X2_startAnew hts
  unfold f_X2_startAnew at h
  refine lv_iconst (v := 0) hx hb dX2_startAnew_0 (by decide) ?_
  refine lv_istore_n (lv' := [(2, .int 0), (0, .ref (B 6 ch ri)), (1, .int v1)]) hx hb dX2_startAnew_1 rfl hl (by decide) rfl (fun ls hl => ?_)
  exact w_X2_startAnew_2 CX RT hc hi wk_fuel _ _ _ _ _ _ h (lv_sub hl [1, 2, 0] rfl) hP hS
set_option maxRecDepth 100000 in
set_option maxHeartbeats 4000000 in
theorem m_X2_startAnew (l : Launch) {D : va_G} {y : Nat → ClassId} {B : Nat → Nat → Nat → Nat} {Lk : Nat → Nat → Nat → Prop} (hI : wk_I B Lk) (hL : wk_L Lk) {ch : Nat} {ri : Nat} (hc : ch < 7) (hi : ri < 8) {v1 : Int32} {M : wk_T} {MM : wk_T} (hf : f_X2_startAnew ch ri v1 M = some ((), MM)) : wk_Mv l yX2_startAnew wsX2_startAnew 0 0 D y B Lk [.ref (B 6 ch ri), .int v1] M MM :=
  wk_ofV (own := RX2) (bytes := cX2_startAnew) (maxL := 3) (by decide +kernel) rfl rfl (Nat.le_of_ble_eq_true rfl) hI hL (fun p e s m args below meth c ls CX RT hl hP hS => w_X2_startAnew_0 CX RT hc hi hf hl hP hS)
def f_X2_copyFrom (ch : Nat) (ri : Nat) (ch2 : Nat) (ri2 : Nat) (M : wk_T) : Option (Unit × wk_T) := wk_mu (wk_ur M 7 ch ri (va_cpy (M 7 ch2 ri2) (M 7 ch ri) 0 0 5)) (fun M1 => wk_mu (wk_ur M1 8 ch ri (va_cpy (M1 8 ch2 ri2) (M1 8 ch ri) 0 0 4)) (fun M2 => wk_mu (wk_up M2 6 ch ri 2 (M2 6 ch2 ri2 2)) (fun M3 => wk_mu (wk_up M3 6 ch ri 3 (M3 6 ch2 ri2 3)) (fun M4 => wk_mu (wk_up M4 6 ch ri 4 (M4 6 ch2 ri2 4)) (fun M5 => wk_mu (wk_up M5 6 ch ri 5 (M5 6 ch2 ri2 5)) (fun M6 => wk_mu (wk_up M6 6 ch ri 6 (M6 6 ch2 ri2 6)) (fun M7 => wk_mu (wk_up M7 6 ch ri 7 (M7 6 ch2 ri2 7)) (fun M8 => wk_mu (wk_up M8 6 ch ri 8 (M8 6 ch2 ri2 8)) (fun M9 => wk_mu (wk_up M9 6 ch ri 9 (M9 6 ch2 ri2 9)) (fun M10 => wk_mu (wk_up M10 6 ch ri 10 (M10 6 ch2 ri2 10)) (fun M11 => wk_mu (wk_up M11 6 ch ri 11 (M11 6 ch2 ri2 11)) (fun M12 => wk_mu (wk_up M12 6 ch ri 12 (M12 6 ch2 ri2 12)) (fun M13 => wk_mu (wk_up M13 6 ch ri 13 (M13 6 ch2 ri2 13)) (fun M14 => wk_mu (wk_up M14 6 ch ri 14 (M14 6 ch2 ri2 14)) (fun M15 => (some ((), M15)))))))))))))))))
set_option maxRecDepth 20000 in
theorem q_X2_copyFrom {s : State} {args : Array Value} (hts : ∀ w ∈ wsX2_copyFrom, w.before args s = true) : (Cond.fieldLink RX2 9 "WokenRooms$Room" "costs" "[I").before args s = true ∧ (Cond.methodLink RX2 58 arraycopyName).before args s = true ∧ (Cond.native arraycopyName).before args s = true ∧ (Cond.static arraycopyName).before args s = true ∧ (Cond.initialized "java/lang/System").before args s = true ∧ (Cond.fieldLink RX2 15 "WokenRooms$Room" "paid" "[I").before args s = true ∧ (Cond.fieldLink RX2 18 "WokenRooms$Room" "kind" "I").before args s = true ∧ (Cond.fieldLink RX2 22 "WokenRooms$Room" "needed" "I").before args s = true ∧ (Cond.fieldLink RX2 25 "WokenRooms$Room" "rail" "I").before args s = true ∧ (Cond.fieldLink RX2 28 "WokenRooms$Room" "timeOut" "I").before args s = true ∧ (Cond.fieldLink RX2 31 "WokenRooms$Room" "guess" "I").before args s = true ∧ (Cond.fieldLink RX2 34 "WokenRooms$Room" "state" "I").before args s = true ∧ (Cond.fieldLink RX2 37 "WokenRooms$Room" "left" "I").before args s = true ∧ (Cond.fieldLink RX2 40 "WokenRooms$Room" "idled" "I").before args s = true ∧ (Cond.fieldLink RX2 43 "WokenRooms$Room" "begun" "I").before args s = true ∧ (Cond.fieldLink RX2 46 "WokenRooms$Room" "late" "I").before args s = true ∧ (Cond.fieldLink RX2 49 "WokenRooms$Room" "woken" "I").before args s = true ∧ (Cond.fieldLink RX2 52 "WokenRooms$Room" "latestEnd" "I").before args s = true ∧ (Cond.fieldLink RX2 55 "WokenRooms$Room" "gap" "I").before args s = true := ⟨hts _ (List.mem_of_getElem? (i := 1) rfl), hts _ (List.mem_of_getElem? (i := 2) rfl), hts _ (List.mem_of_getElem? (i := 3) rfl), hts _ (List.mem_of_getElem? (i := 4) rfl), hts _ (List.mem_of_getElem? (i := 5) rfl), hts _ (List.mem_of_getElem? (i := 6) rfl), hts _ (List.mem_of_getElem? (i := 7) rfl), hts _ (List.mem_of_getElem? (i := 8) rfl), hts _ (List.mem_of_getElem? (i := 9) rfl), hts _ (List.mem_of_getElem? (i := 10) rfl), hts _ (List.mem_of_getElem? (i := 11) rfl), hts _ (List.mem_of_getElem? (i := 12) rfl), hts _ (List.mem_of_getElem? (i := 13) rfl), hts _ (List.mem_of_getElem? (i := 14) rfl), hts _ (List.mem_of_getElem? (i := 15) rfl), hts _ (List.mem_of_getElem? (i := 16) rfl), hts _ (List.mem_of_getElem? (i := 17) rfl), hts _ (List.mem_of_getElem? (i := 18) rfl), hts _ (List.mem_of_getElem? (i := 19) rfl)⟩
set_option maxRecDepth 100000 in
set_option maxHeartbeats 4000000 in
theorem w_X2_copyFrom_0 {ch : Nat} {ri : Nat} {ch2 : Nat} {ri2 : Nat} (CX : wk_X p l e R s m args below meth c cells slots Q cX2_copyFrom 2 RX2 wsX2_copyFrom D y B Lk A 1 40) (RT : wk_Rv p l e R s m args below meth c cells slots Q cX2_copyFrom D y B Lk A MM) (hc : ch < 7) (hi : ri < 8) (hc2 : ch2 < 7) (hi2 : ri2 < 8) {M : wk_T} {H : Heap} {locs : List Loc} {ls : Array Slot} (h : f_X2_copyFrom ch ri ch2 ri2 M = some ((), MM)) (hl : lv_has ls 2 [(0, .ref (B 6 ch ri)), (1, .ref (B 6 ch2 ri2))]) (hP : wk_H D y B Lk M H) (hS : va_S A s.heap H locs) : W p l e R s m args below meth c H locs cells slots Q (F0 m 0 ls []) := by
  obtain ⟨⟨hx, hb, hml, hown, hts⟩, hK, hI, hL, hA, hfr, hlo, hcs⟩ := id CX
  obtain ⟨q1, q2, q3, q4, q5, q6, q7, q8, q9, q10, q11, q12, q13, q14, q15, q16, q17, q18, q19⟩ := q_X2_copyFrom hts
  unfold f_X2_copyFrom at h
  refine lv_aload_n hx hb dX2_copyFrom_0 rfl (lv_at hl 1 rfl) ?_
  refine wk_get (ref := "WokenRooms$Room") (C := RX2) (T := TX2) (N := 15) (ci := 2) (v := .ref (B 7 ch2 ri2)) hx hb hts (fun _ h => List.mem_cons_of_mem _ (List.mem_append_right _ h)) hown hK hP (wk_l6 hL hc2 hi2 6 (by decide) (by decide)) wk_c6 rfl 0 (by decide) q1 rfl rfl dX2_copyFrom_1 ?_
  refine lv_iconst (v := 0) hx hb dX2_copyFrom_4 (by decide) ?_
  refine lv_aload_n hx hb dX2_copyFrom_5 rfl (lv_at hl 0 rfl) ?_
  refine wk_get (ref := "WokenRooms$Room") (C := RX2) (T := TX2) (N := 15) (ci := 2) (v := .ref (B 7 ch ri)) hx hb hts (fun _ h => List.mem_cons_of_mem _ (List.mem_append_right _ h)) hown hK hP (wk_l6 hL hc hi 6 (by decide) (by decide)) wk_c6 rfl 0 (by decide) q1 rfl rfl dX2_copyFrom_6 ?_
  refine lv_iconst (v := 0) hx hb dX2_copyFrom_9 (by decide) ?_
  refine lv_iconst (v := 5) hx hb dX2_copyFrom_10 (by decide) ?_
  obtain ⟨M1, eM1, h⟩ := wk_mu_e h
  refine wk_copy (spn := 0) (dpn := 0) (nn := 5) hx hb (hml.trans hl.1.symm) hown q2 q3 q4 q5 hK hP hI hS hA (wk_l6 hL hc2 hi2 7 (by decide) (by decide)) (wk_l6 hL hc hi 7 (by decide) (by decide)) wk_c7 wk_c7 (by decide) (by decide) (by decide) (by decide) (by decide) (by decide) (by decide) (by decide) (by rfl) (Nat.le_trans (by decide) hfr) (Nat.le_trans (by decide) hlo) dX2_copyFrom_11 (fun H locs hP hS => ?_)
  rw [eM1] at hP
  refine lv_aload_n hx hb dX2_copyFrom_14 rfl (lv_at hl 1 rfl) ?_
  refine wk_get (ref := "WokenRooms$Room") (C := RX2) (T := TX2) (N := 15) (ci := 2) (v := .ref (B 8 ch2 ri2)) hx hb hts (fun _ h => List.mem_cons_of_mem _ (List.mem_append_right _ h)) hown hK hP (wk_l6 hL hc2 hi2 6 (by decide) (by decide)) wk_c6 rfl 1 (by decide) q6 rfl rfl dX2_copyFrom_15 ?_
  refine lv_iconst (v := 0) hx hb dX2_copyFrom_18 (by decide) ?_
  refine lv_aload_n hx hb dX2_copyFrom_19 rfl (lv_at hl 0 rfl) ?_
  refine wk_get (ref := "WokenRooms$Room") (C := RX2) (T := TX2) (N := 15) (ci := 2) (v := .ref (B 8 ch ri)) hx hb hts (fun _ h => List.mem_cons_of_mem _ (List.mem_append_right _ h)) hown hK hP (wk_l6 hL hc hi 6 (by decide) (by decide)) wk_c6 rfl 1 (by decide) q6 rfl rfl dX2_copyFrom_20 ?_
  refine lv_iconst (v := 0) hx hb dX2_copyFrom_23 (by decide) ?_
  refine lv_iconst (v := 4) hx hb dX2_copyFrom_24 (by decide) ?_
  obtain ⟨M2, eM2, h⟩ := wk_mu_e h
  refine wk_copy (spn := 0) (dpn := 0) (nn := 4) hx hb (hml.trans hl.1.symm) hown q2 q3 q4 q5 hK hP hI hS hA (wk_l6 hL hc2 hi2 8 (by decide) (by decide)) (wk_l6 hL hc hi 8 (by decide) (by decide)) wk_c8 wk_c8 (by decide) (by decide) (by decide) (by decide) (by decide) (by decide) (by decide) (by decide) (by rfl) (Nat.le_trans (by decide) hfr) (Nat.le_trans (by decide) hlo) dX2_copyFrom_25 (fun H locs hP hS => ?_)
  rw [eM2] at hP
  refine lv_aload_n hx hb dX2_copyFrom_28 rfl (lv_at hl 0 rfl) ?_
  refine lv_aload_n hx hb dX2_copyFrom_29 rfl (lv_at hl 1 rfl) ?_
  refine wk_get (ref := "WokenRooms$Room") (C := RX2) (T := TX2) (N := 15) (ci := 2) (v := .int (M2 6 ch2 ri2 2)) hx hb hts (fun _ h => List.mem_cons_of_mem _ (List.mem_append_right _ h)) hown hK hP (wk_l6 hL hc2 hi2 6 (by decide) (by decide)) wk_c6 rfl 2 (by decide) q7 rfl rfl dX2_copyFrom_30 ?_
  obtain ⟨M3, eM3, h⟩ := wk_mu_e h
  refine wk_put (ref := "WokenRooms$Room") (C := RX2) (T := TX2) (N := 15) (ci := 2) hx hb hts (fun _ h => List.mem_cons_of_mem _ (List.mem_append_right _ h)) tyX2 tyX2_ok nmX2 hown hK hP hI hS hA (wk_l6 hL hc hi 6 (by decide) (by decide)) wk_c6 rfl 2 (by decide) q7 rfl rfl (by decide +kernel) (Nat.le_of_ble_eq_true rfl) (by rfl) dX2_copyFrom_33 (fun H locs hP hS => ?_)
  rw [eM3] at hP
  refine lv_aload_n hx hb dX2_copyFrom_36 rfl (lv_at hl 0 rfl) ?_
  refine lv_aload_n hx hb dX2_copyFrom_37 rfl (lv_at hl 1 rfl) ?_
  refine wk_get (ref := "WokenRooms$Room") (C := RX2) (T := TX2) (N := 15) (ci := 2) (v := .int (M3 6 ch2 ri2 3)) hx hb hts (fun _ h => List.mem_cons_of_mem _ (List.mem_append_right _ h)) hown hK hP (wk_l6 hL hc2 hi2 6 (by decide) (by decide)) wk_c6 rfl 3 (by decide) q8 rfl rfl dX2_copyFrom_38 ?_
  obtain ⟨M4, eM4, h⟩ := wk_mu_e h
  refine wk_put (ref := "WokenRooms$Room") (C := RX2) (T := TX2) (N := 15) (ci := 2) hx hb hts (fun _ h => List.mem_cons_of_mem _ (List.mem_append_right _ h)) tyX2 tyX2_ok nmX2 hown hK hP hI hS hA (wk_l6 hL hc hi 6 (by decide) (by decide)) wk_c6 rfl 3 (by decide) q8 rfl rfl (by decide +kernel) (Nat.le_of_ble_eq_true rfl) (by rfl) dX2_copyFrom_41 (fun H locs hP hS => ?_)
  rw [eM4] at hP
  refine lv_aload_n hx hb dX2_copyFrom_44 rfl (lv_at hl 0 rfl) ?_
  refine lv_aload_n hx hb dX2_copyFrom_45 rfl (lv_at hl 1 rfl) ?_
  refine wk_get (ref := "WokenRooms$Room") (C := RX2) (T := TX2) (N := 15) (ci := 2) (v := .int (M4 6 ch2 ri2 4)) hx hb hts (fun _ h => List.mem_cons_of_mem _ (List.mem_append_right _ h)) hown hK hP (wk_l6 hL hc2 hi2 6 (by decide) (by decide)) wk_c6 rfl 4 (by decide) q9 rfl rfl dX2_copyFrom_46 ?_
  obtain ⟨M5, eM5, h⟩ := wk_mu_e h
  refine wk_put (ref := "WokenRooms$Room") (C := RX2) (T := TX2) (N := 15) (ci := 2) hx hb hts (fun _ h => List.mem_cons_of_mem _ (List.mem_append_right _ h)) tyX2 tyX2_ok nmX2 hown hK hP hI hS hA (wk_l6 hL hc hi 6 (by decide) (by decide)) wk_c6 rfl 4 (by decide) q9 rfl rfl (by decide +kernel) (Nat.le_of_ble_eq_true rfl) (by rfl) dX2_copyFrom_49 (fun H locs hP hS => ?_)
  rw [eM5] at hP
  refine lv_aload_n hx hb dX2_copyFrom_52 rfl (lv_at hl 0 rfl) ?_
  refine lv_aload_n hx hb dX2_copyFrom_53 rfl (lv_at hl 1 rfl) ?_
  refine wk_get (ref := "WokenRooms$Room") (C := RX2) (T := TX2) (N := 15) (ci := 2) (v := .int (M5 6 ch2 ri2 5)) hx hb hts (fun _ h => List.mem_cons_of_mem _ (List.mem_append_right _ h)) hown hK hP (wk_l6 hL hc2 hi2 6 (by decide) (by decide)) wk_c6 rfl 5 (by decide) q10 rfl rfl dX2_copyFrom_54 ?_
  obtain ⟨M6, eM6, h⟩ := wk_mu_e h
  refine wk_put (ref := "WokenRooms$Room") (C := RX2) (T := TX2) (N := 15) (ci := 2) hx hb hts (fun _ h => List.mem_cons_of_mem _ (List.mem_append_right _ h)) tyX2 tyX2_ok nmX2 hown hK hP hI hS hA (wk_l6 hL hc hi 6 (by decide) (by decide)) wk_c6 rfl 5 (by decide) q10 rfl rfl (by decide +kernel) (Nat.le_of_ble_eq_true rfl) (by rfl) dX2_copyFrom_57 (fun H locs hP hS => ?_)
  rw [eM6] at hP
  refine lv_aload_n hx hb dX2_copyFrom_60 rfl (lv_at hl 0 rfl) ?_
  refine lv_aload_n hx hb dX2_copyFrom_61 rfl (lv_at hl 1 rfl) ?_
  refine wk_get (ref := "WokenRooms$Room") (C := RX2) (T := TX2) (N := 15) (ci := 2) (v := .int (M6 6 ch2 ri2 6)) hx hb hts (fun _ h => List.mem_cons_of_mem _ (List.mem_append_right _ h)) hown hK hP (wk_l6 hL hc2 hi2 6 (by decide) (by decide)) wk_c6 rfl 6 (by decide) q11 rfl rfl dX2_copyFrom_62 ?_
  obtain ⟨M7, eM7, h⟩ := wk_mu_e h
  refine wk_put (ref := "WokenRooms$Room") (C := RX2) (T := TX2) (N := 15) (ci := 2) hx hb hts (fun _ h => List.mem_cons_of_mem _ (List.mem_append_right _ h)) tyX2 tyX2_ok nmX2 hown hK hP hI hS hA (wk_l6 hL hc hi 6 (by decide) (by decide)) wk_c6 rfl 6 (by decide) q11 rfl rfl (by decide +kernel) (Nat.le_of_ble_eq_true rfl) (by rfl) dX2_copyFrom_65 (fun H locs hP hS => ?_)
  rw [eM7] at hP
  refine lv_aload_n hx hb dX2_copyFrom_68 rfl (lv_at hl 0 rfl) ?_
  refine lv_aload_n hx hb dX2_copyFrom_69 rfl (lv_at hl 1 rfl) ?_
  refine wk_get (ref := "WokenRooms$Room") (C := RX2) (T := TX2) (N := 15) (ci := 2) (v := .int (M7 6 ch2 ri2 7)) hx hb hts (fun _ h => List.mem_cons_of_mem _ (List.mem_append_right _ h)) hown hK hP (wk_l6 hL hc2 hi2 6 (by decide) (by decide)) wk_c6 rfl 7 (by decide) q12 rfl rfl dX2_copyFrom_70 ?_
  obtain ⟨M8, eM8, h⟩ := wk_mu_e h
  refine wk_put (ref := "WokenRooms$Room") (C := RX2) (T := TX2) (N := 15) (ci := 2) hx hb hts (fun _ h => List.mem_cons_of_mem _ (List.mem_append_right _ h)) tyX2 tyX2_ok nmX2 hown hK hP hI hS hA (wk_l6 hL hc hi 6 (by decide) (by decide)) wk_c6 rfl 7 (by decide) q12 rfl rfl (by decide +kernel) (Nat.le_of_ble_eq_true rfl) (by rfl) dX2_copyFrom_73 (fun H locs hP hS => ?_)
  rw [eM8] at hP
  refine lv_aload_n hx hb dX2_copyFrom_76 rfl (lv_at hl 0 rfl) ?_
  refine lv_aload_n hx hb dX2_copyFrom_77 rfl (lv_at hl 1 rfl) ?_
  refine wk_get (ref := "WokenRooms$Room") (C := RX2) (T := TX2) (N := 15) (ci := 2) (v := .int (M8 6 ch2 ri2 8)) hx hb hts (fun _ h => List.mem_cons_of_mem _ (List.mem_append_right _ h)) hown hK hP (wk_l6 hL hc2 hi2 6 (by decide) (by decide)) wk_c6 rfl 8 (by decide) q13 rfl rfl dX2_copyFrom_78 ?_
  obtain ⟨M9, eM9, h⟩ := wk_mu_e h
  refine wk_put (ref := "WokenRooms$Room") (C := RX2) (T := TX2) (N := 15) (ci := 2) hx hb hts (fun _ h => List.mem_cons_of_mem _ (List.mem_append_right _ h)) tyX2 tyX2_ok nmX2 hown hK hP hI hS hA (wk_l6 hL hc hi 6 (by decide) (by decide)) wk_c6 rfl 8 (by decide) q13 rfl rfl (by decide +kernel) (Nat.le_of_ble_eq_true rfl) (by rfl) dX2_copyFrom_81 (fun H locs hP hS => ?_)
  rw [eM9] at hP
  refine lv_aload_n hx hb dX2_copyFrom_84 rfl (lv_at hl 0 rfl) ?_
  refine lv_aload_n hx hb dX2_copyFrom_85 rfl (lv_at hl 1 rfl) ?_
  refine wk_get (ref := "WokenRooms$Room") (C := RX2) (T := TX2) (N := 15) (ci := 2) (v := .int (M9 6 ch2 ri2 9)) hx hb hts (fun _ h => List.mem_cons_of_mem _ (List.mem_append_right _ h)) hown hK hP (wk_l6 hL hc2 hi2 6 (by decide) (by decide)) wk_c6 rfl 9 (by decide) q14 rfl rfl dX2_copyFrom_86 ?_
  obtain ⟨M10, eM10, h⟩ := wk_mu_e h
  refine wk_put (ref := "WokenRooms$Room") (C := RX2) (T := TX2) (N := 15) (ci := 2) hx hb hts (fun _ h => List.mem_cons_of_mem _ (List.mem_append_right _ h)) tyX2 tyX2_ok nmX2 hown hK hP hI hS hA (wk_l6 hL hc hi 6 (by decide) (by decide)) wk_c6 rfl 9 (by decide) q14 rfl rfl (by decide +kernel) (Nat.le_of_ble_eq_true rfl) (by rfl) dX2_copyFrom_89 (fun H locs hP hS => ?_)
  rw [eM10] at hP
  refine lv_aload_n hx hb dX2_copyFrom_92 rfl (lv_at hl 0 rfl) ?_
  refine lv_aload_n hx hb dX2_copyFrom_93 rfl (lv_at hl 1 rfl) ?_
  refine wk_get (ref := "WokenRooms$Room") (C := RX2) (T := TX2) (N := 15) (ci := 2) (v := .int (M10 6 ch2 ri2 10)) hx hb hts (fun _ h => List.mem_cons_of_mem _ (List.mem_append_right _ h)) hown hK hP (wk_l6 hL hc2 hi2 6 (by decide) (by decide)) wk_c6 rfl 10 (by decide) q15 rfl rfl dX2_copyFrom_94 ?_
  obtain ⟨M11, eM11, h⟩ := wk_mu_e h
  refine wk_put (ref := "WokenRooms$Room") (C := RX2) (T := TX2) (N := 15) (ci := 2) hx hb hts (fun _ h => List.mem_cons_of_mem _ (List.mem_append_right _ h)) tyX2 tyX2_ok nmX2 hown hK hP hI hS hA (wk_l6 hL hc hi 6 (by decide) (by decide)) wk_c6 rfl 10 (by decide) q15 rfl rfl (by decide +kernel) (Nat.le_of_ble_eq_true rfl) (by rfl) dX2_copyFrom_97 (fun H locs hP hS => ?_)
  rw [eM11] at hP
  refine lv_aload_n hx hb dX2_copyFrom_100 rfl (lv_at hl 0 rfl) ?_
  refine lv_aload_n hx hb dX2_copyFrom_101 rfl (lv_at hl 1 rfl) ?_
  refine wk_get (ref := "WokenRooms$Room") (C := RX2) (T := TX2) (N := 15) (ci := 2) (v := .int (M11 6 ch2 ri2 11)) hx hb hts (fun _ h => List.mem_cons_of_mem _ (List.mem_append_right _ h)) hown hK hP (wk_l6 hL hc2 hi2 6 (by decide) (by decide)) wk_c6 rfl 11 (by decide) q16 rfl rfl dX2_copyFrom_102 ?_
  obtain ⟨M12, eM12, h⟩ := wk_mu_e h
  refine wk_put (ref := "WokenRooms$Room") (C := RX2) (T := TX2) (N := 15) (ci := 2) hx hb hts (fun _ h => List.mem_cons_of_mem _ (List.mem_append_right _ h)) tyX2 tyX2_ok nmX2 hown hK hP hI hS hA (wk_l6 hL hc hi 6 (by decide) (by decide)) wk_c6 rfl 11 (by decide) q16 rfl rfl (by decide +kernel) (Nat.le_of_ble_eq_true rfl) (by rfl) dX2_copyFrom_105 (fun H locs hP hS => ?_)
  rw [eM12] at hP
  refine lv_aload_n hx hb dX2_copyFrom_108 rfl (lv_at hl 0 rfl) ?_
  refine lv_aload_n hx hb dX2_copyFrom_109 rfl (lv_at hl 1 rfl) ?_
  refine wk_get (ref := "WokenRooms$Room") (C := RX2) (T := TX2) (N := 15) (ci := 2) (v := .int (M12 6 ch2 ri2 12)) hx hb hts (fun _ h => List.mem_cons_of_mem _ (List.mem_append_right _ h)) hown hK hP (wk_l6 hL hc2 hi2 6 (by decide) (by decide)) wk_c6 rfl 12 (by decide) q17 rfl rfl dX2_copyFrom_110 ?_
  obtain ⟨M13, eM13, h⟩ := wk_mu_e h
  refine wk_put (ref := "WokenRooms$Room") (C := RX2) (T := TX2) (N := 15) (ci := 2) hx hb hts (fun _ h => List.mem_cons_of_mem _ (List.mem_append_right _ h)) tyX2 tyX2_ok nmX2 hown hK hP hI hS hA (wk_l6 hL hc hi 6 (by decide) (by decide)) wk_c6 rfl 12 (by decide) q17 rfl rfl (by decide +kernel) (Nat.le_of_ble_eq_true rfl) (by rfl) dX2_copyFrom_113 (fun H locs hP hS => ?_)
  rw [eM13] at hP
  refine lv_aload_n hx hb dX2_copyFrom_116 rfl (lv_at hl 0 rfl) ?_
  refine lv_aload_n hx hb dX2_copyFrom_117 rfl (lv_at hl 1 rfl) ?_
  refine wk_get (ref := "WokenRooms$Room") (C := RX2) (T := TX2) (N := 15) (ci := 2) (v := .int (M13 6 ch2 ri2 13)) hx hb hts (fun _ h => List.mem_cons_of_mem _ (List.mem_append_right _ h)) hown hK hP (wk_l6 hL hc2 hi2 6 (by decide) (by decide)) wk_c6 rfl 13 (by decide) q18 rfl rfl dX2_copyFrom_118 ?_
  obtain ⟨M14, eM14, h⟩ := wk_mu_e h
  refine wk_put (ref := "WokenRooms$Room") (C := RX2) (T := TX2) (N := 15) (ci := 2) hx hb hts (fun _ h => List.mem_cons_of_mem _ (List.mem_append_right _ h)) tyX2 tyX2_ok nmX2 hown hK hP hI hS hA (wk_l6 hL hc hi 6 (by decide) (by decide)) wk_c6 rfl 13 (by decide) q18 rfl rfl (by decide +kernel) (Nat.le_of_ble_eq_true rfl) (by rfl) dX2_copyFrom_121 (fun H locs hP hS => ?_)
  rw [eM14] at hP
  refine lv_aload_n hx hb dX2_copyFrom_124 rfl (lv_at hl 0 rfl) ?_
  refine lv_aload_n hx hb dX2_copyFrom_125 rfl (lv_at hl 1 rfl) ?_
  refine wk_get (ref := "WokenRooms$Room") (C := RX2) (T := TX2) (N := 15) (ci := 2) (v := .int (M14 6 ch2 ri2 14)) hx hb hts (fun _ h => List.mem_cons_of_mem _ (List.mem_append_right _ h)) hown hK hP (wk_l6 hL hc2 hi2 6 (by decide) (by decide)) wk_c6 rfl 14 (by decide) q19 rfl rfl dX2_copyFrom_126 ?_
  obtain ⟨M15, eM15, h⟩ := wk_mu_e h
  refine wk_put (ref := "WokenRooms$Room") (C := RX2) (T := TX2) (N := 15) (ci := 2) hx hb hts (fun _ h => List.mem_cons_of_mem _ (List.mem_append_right _ h)) tyX2 tyX2_ok nmX2 hown hK hP hI hS hA (wk_l6 hL hc hi 6 (by decide) (by decide)) wk_c6 rfl 14 (by decide) q19 rfl rfl (by decide +kernel) (Nat.le_of_ble_eq_true rfl) (by rfl) dX2_copyFrom_129 (fun H locs hP hS => ?_)
  rw [eM15] at hP
  exact RT _ _ _ _ _ h hP hS dX2_copyFrom_132
set_option maxRecDepth 100000 in
set_option maxHeartbeats 4000000 in
theorem m_X2_copyFrom (l : Launch) {D : va_G} {y : Nat → ClassId} {B : Nat → Nat → Nat → Nat} {Lk : Nat → Nat → Nat → Prop} (hI : wk_I B Lk) (hL : wk_L Lk) {ch : Nat} {ri : Nat} {ch2 : Nat} {ri2 : Nat} (hc : ch < 7) (hi : ri < 8) (hc2 : ch2 < 7) (hi2 : ri2 < 8) {M : wk_T} {MM : wk_T} (hf : f_X2_copyFrom ch ri ch2 ri2 M = some ((), MM)) : wk_Mv l yX2_copyFrom wsX2_copyFrom 1 40 D y B Lk [.ref (B 6 ch ri), .ref (B 6 ch2 ri2)] M MM :=
  wk_ofV (own := RX2) (bytes := cX2_copyFrom) (maxL := 2) (by decide +kernel) rfl rfl (Nat.le_of_ble_eq_true rfl) hI hL (fun p e s m args below meth c ls CX RT hl hP hS => w_X2_copyFrom_0 CX RT hc hi hc2 hi2 hf hl hP hS)
def f_X2_tell_126 (ch : Nat) (ri : Nat) (M : wk_T) : Option (Int32 × wk_T) := (some ((M 6 ch ri 8), M))
def f_X2_tell (ch : Nat) (ri : Nat) (v1 : Int32) (M : wk_T) : Option (Int32 × wk_T) := (if v1 = 0 then (some ((M 6 ch ri 2), M)) else (if v1 = 1 then (some ((M 6 ch ri 7), M)) else (if v1 = 2 then (if (M 6 ch ri 3) = (-1) then (some ((-4), M)) else (some ((M 6 ch ri 3), M))) else (if v1 = 3 then (if (M 6 ch ri 4) = (-1) then (some ((-4), M)) else (some ((M 6 ch ri 4), M))) else (if v1 = 4 then (if (M 6 ch ri 7) = 1 then (f_X2_tell_126 ch ri M) else (if (M 6 ch ri 7) = 3 then (f_X2_tell_126 ch ri M) else (some (0, M)))) else (if v1 = 5 then (if (M 6 ch ri 7) = 2 then (some ((M 6 ch ri 9), M)) else (some (0, M))) else (if v1 = 6 then (some ((M 6 ch ri 5), M)) else (if v1 = 7 then (some ((M 6 ch ri 6), M)) else (if v1 = 8 then (if 2 ≤ (M 6 ch ri 10) then (some ((M 6 ch ri 14), M)) else (some ((-4), M))) else (if v1 = 9 then (some ((M 6 ch ri 10), M)) else (if v1 = 10 then (some ((M 6 ch ri 11), M)) else (if v1 = 11 then (some ((M 6 ch ri 12), M)) else (if 2 ≤ (M 6 ch ri 10) then (some ((M 6 ch ri 14), M)) else (some ((-4), M)))))))))))))))
set_option maxRecDepth 20000 in
theorem q_X2_tell {s : State} {args : Array Value} (hts : ∀ w ∈ wsX2_tell, w.before args s = true) : (Cond.fieldLink RX2 18 "WokenRooms$Room" "kind" "I").before args s = true ∧ (Cond.fieldLink RX2 34 "WokenRooms$Room" "state" "I").before args s = true ∧ (Cond.fieldLink RX2 22 "WokenRooms$Room" "needed" "I").before args s = true ∧ (Cond.fieldLink RX2 25 "WokenRooms$Room" "rail" "I").before args s = true ∧ (Cond.fieldLink RX2 37 "WokenRooms$Room" "left" "I").before args s = true ∧ (Cond.fieldLink RX2 40 "WokenRooms$Room" "idled" "I").before args s = true ∧ (Cond.fieldLink RX2 28 "WokenRooms$Room" "timeOut" "I").before args s = true ∧ (Cond.fieldLink RX2 31 "WokenRooms$Room" "guess" "I").before args s = true ∧ (Cond.fieldLink RX2 43 "WokenRooms$Room" "begun" "I").before args s = true ∧ (Cond.fieldLink RX2 46 "WokenRooms$Room" "late" "I").before args s = true ∧ (Cond.fieldLink RX2 49 "WokenRooms$Room" "woken" "I").before args s = true ∧ (Cond.fieldLink RX2 55 "WokenRooms$Room" "gap" "I").before args s = true := ⟨hts _ (List.mem_of_getElem? (i := 1) rfl), hts _ (List.mem_of_getElem? (i := 2) rfl), hts _ (List.mem_of_getElem? (i := 3) rfl), hts _ (List.mem_of_getElem? (i := 4) rfl), hts _ (List.mem_of_getElem? (i := 5) rfl), hts _ (List.mem_of_getElem? (i := 6) rfl), hts _ (List.mem_of_getElem? (i := 7) rfl), hts _ (List.mem_of_getElem? (i := 8) rfl), hts _ (List.mem_of_getElem? (i := 9) rfl), hts _ (List.mem_of_getElem? (i := 10) rfl), hts _ (List.mem_of_getElem? (i := 11) rfl), hts _ (List.mem_of_getElem? (i := 12) rfl)⟩
set_option maxRecDepth 100000 in
set_option maxHeartbeats 4000000 in
theorem w_X2_tell_126 {ch : Nat} {ri : Nat} {r0 : Int32} (CX : wk_X p l e R s m args below meth c cells slots Q cX2_tell 2 RX2 wsX2_tell D y B Lk A 0 0) (RT : wk_Ri p l e R s m args below meth c cells slots Q cX2_tell D y B Lk A r0 MM) (hc : ch < 7) (hi : ri < 8) {M : wk_T} {H : Heap} {locs : List Loc} {ls : Array Slot} (h : f_X2_tell_126 ch ri M = some (r0, MM)) (hl : lv_has ls 2 [(0, .ref (B 6 ch ri))]) (hP : wk_H D y B Lk M H) (hS : va_S A s.heap H locs) : W p l e R s m args below meth c H locs cells slots Q (F0 m 126 ls []) := by
  obtain ⟨⟨hx, hb, hml, hown, hts⟩, hK, hI, hL, hA, hfr, hlo, hcs⟩ := id CX
  obtain ⟨q1, q2, q3, q4, q5, q6, q7, q8, q9, q10, q11, q12⟩ := q_X2_tell hts
  unfold f_X2_tell_126 at h
  refine lv_aload_n hx hb dX2_tell_126 rfl (lv_at hl 0 rfl) ?_
  refine wk_get (ref := "WokenRooms$Room") (C := RX2) (T := TX2) (N := 15) (ci := 2) (v := .int (M 6 ch ri 8)) hx hb hts (fun _ h => List.mem_cons_of_mem _ (List.mem_append_right _ h)) hown hK hP (wk_l6 hL hc hi 6 (by decide) (by decide)) wk_c6 rfl 8 (by decide) q5 rfl rfl dX2_tell_127 ?_
  refine lv_goto (tgt := 134) hx hb dX2_tell_130 (by decide) ?_
  exact RT _ _ _ _ _ _ h hP hS dX2_tell_134
set_option maxRecDepth 100000 in
set_option maxHeartbeats 4000000 in
theorem w_X2_tell_0 {ch : Nat} {ri : Nat} {r0 : Int32} (CX : wk_X p l e R s m args below meth c cells slots Q cX2_tell 2 RX2 wsX2_tell D y B Lk A 0 0) (RT : wk_Ri p l e R s m args below meth c cells slots Q cX2_tell D y B Lk A r0 MM) (hc : ch < 7) (hi : ri < 8) {v1 : Int32} {M : wk_T} {H : Heap} {locs : List Loc} {ls : Array Slot} (h : f_X2_tell ch ri v1 M = some (r0, MM)) (hl : lv_has ls 2 [(0, .ref (B 6 ch ri)), (1, .int v1)]) (hP : wk_H D y B Lk M H) (hS : va_S A s.heap H locs) : W p l e R s m args below meth c H locs cells slots Q (F0 m 0 ls []) := by
  obtain ⟨⟨hx, hb, hml, hown, hts⟩, hK, hI, hL, hA, hfr, hlo, hcs⟩ := id CX
  obtain ⟨q1, q2, q3, q4, q5, q6, q7, q8, q9, q10, q11, q12⟩ := q_X2_tell hts
  unfold f_X2_tell at h
  refine lv_iload_n hx hb dX2_tell_0 rfl (lv_at hl 1 rfl) ?_
  by_cases g1 : v1 = 0
  · have h := wk_p g1 h
    refine lv_tableIn (off := 63) (tgt := 64) hx hb dX2_tell_1 (by rw [g1]; decide) (by rw [g1]; decide) (by rw [g1]; rfl) (by decide) ?_
    refine lv_aload_n hx hb dX2_tell_64 rfl (lv_at hl 0 rfl) ?_
    refine wk_get (ref := "WokenRooms$Room") (C := RX2) (T := TX2) (N := 15) (ci := 2) (v := .int (M 6 ch ri 2)) hx hb hts (fun _ h => List.mem_cons_of_mem _ (List.mem_append_right _ h)) hown hK hP (wk_l6 hL hc hi 6 (by decide) (by decide)) wk_c6 rfl 2 (by decide) q1 rfl rfl dX2_tell_65 ?_
    exact RT _ _ _ _ _ _ h hP hS dX2_tell_68
  · have h := wk_n g1 h
    by_cases g2 : v1 = 1
    · have h := wk_p g2 h
      refine lv_tableIn (off := 68) (tgt := 69) hx hb dX2_tell_1 (by rw [g2]; decide) (by rw [g2]; decide) (by rw [g2]; rfl) (by decide) ?_
      refine lv_aload_n hx hb dX2_tell_69 rfl (lv_at hl 0 rfl) ?_
      refine wk_get (ref := "WokenRooms$Room") (C := RX2) (T := TX2) (N := 15) (ci := 2) (v := .int (M 6 ch ri 7)) hx hb hts (fun _ h => List.mem_cons_of_mem _ (List.mem_append_right _ h)) hown hK hP (wk_l6 hL hc hi 6 (by decide) (by decide)) wk_c6 rfl 7 (by decide) q2 rfl rfl dX2_tell_70 ?_
      exact RT _ _ _ _ _ _ h hP hS dX2_tell_73
    · have h := wk_n g2 h
      by_cases g3 : v1 = 2
      · have h := wk_p g3 h
        refine lv_tableIn (off := 73) (tgt := 74) hx hb dX2_tell_1 (by rw [g3]; decide) (by rw [g3]; decide) (by rw [g3]; rfl) (by decide) ?_
        refine lv_aload_n hx hb dX2_tell_74 rfl (lv_at hl 0 rfl) ?_
        refine wk_get (ref := "WokenRooms$Room") (C := RX2) (T := TX2) (N := 15) (ci := 2) (v := .int (M 6 ch ri 3)) hx hb hts (fun _ h => List.mem_cons_of_mem _ (List.mem_append_right _ h)) hown hK hP (wk_l6 hL hc hi 6 (by decide) (by decide)) wk_c6 rfl 3 (by decide) q3 rfl rfl dX2_tell_75 ?_
        refine lv_iconst (v := (-1)) hx hb dX2_tell_78 (by decide) ?_
        refine lv_icmp_ne (tgt := 87) hx hb dX2_tell_79 (by decide) (fun g4 => ?_) (fun g4 => ?_)
        · have h := wk_n g4 h
          refine lv_aload_n hx hb dX2_tell_87 rfl (lv_at hl 0 rfl) ?_
          refine wk_get (ref := "WokenRooms$Room") (C := RX2) (T := TX2) (N := 15) (ci := 2) (v := .int (M 6 ch ri 3)) hx hb hts (fun _ h => List.mem_cons_of_mem _ (List.mem_append_right _ h)) hown hK hP (wk_l6 hL hc hi 6 (by decide) (by decide)) wk_c6 rfl 3 (by decide) q3 rfl rfl dX2_tell_88 ?_
          exact RT _ _ _ _ _ _ h hP hS dX2_tell_91
        · have h := wk_p g4 h
          refine lv_bipush (v := (-4)) hx hb dX2_tell_82 (by decide) ?_
          refine lv_goto (tgt := 91) hx hb dX2_tell_84 (by decide) ?_
          exact RT _ _ _ _ _ _ h hP hS dX2_tell_91
      · have h := wk_n g3 h
        by_cases g5 : v1 = 3
        · have h := wk_p g5 h
          refine lv_tableIn (off := 91) (tgt := 92) hx hb dX2_tell_1 (by rw [g5]; decide) (by rw [g5]; decide) (by rw [g5]; rfl) (by decide) ?_
          refine lv_aload_n hx hb dX2_tell_92 rfl (lv_at hl 0 rfl) ?_
          refine wk_get (ref := "WokenRooms$Room") (C := RX2) (T := TX2) (N := 15) (ci := 2) (v := .int (M 6 ch ri 4)) hx hb hts (fun _ h => List.mem_cons_of_mem _ (List.mem_append_right _ h)) hown hK hP (wk_l6 hL hc hi 6 (by decide) (by decide)) wk_c6 rfl 4 (by decide) q4 rfl rfl dX2_tell_93 ?_
          refine lv_iconst (v := (-1)) hx hb dX2_tell_96 (by decide) ?_
          refine lv_icmp_ne (tgt := 105) hx hb dX2_tell_97 (by decide) (fun g6 => ?_) (fun g6 => ?_)
          · have h := wk_n g6 h
            refine lv_aload_n hx hb dX2_tell_105 rfl (lv_at hl 0 rfl) ?_
            refine wk_get (ref := "WokenRooms$Room") (C := RX2) (T := TX2) (N := 15) (ci := 2) (v := .int (M 6 ch ri 4)) hx hb hts (fun _ h => List.mem_cons_of_mem _ (List.mem_append_right _ h)) hown hK hP (wk_l6 hL hc hi 6 (by decide) (by decide)) wk_c6 rfl 4 (by decide) q4 rfl rfl dX2_tell_106 ?_
            exact RT _ _ _ _ _ _ h hP hS dX2_tell_109
          · have h := wk_p g6 h
            refine lv_bipush (v := (-4)) hx hb dX2_tell_100 (by decide) ?_
            refine lv_goto (tgt := 109) hx hb dX2_tell_102 (by decide) ?_
            exact RT _ _ _ _ _ _ h hP hS dX2_tell_109
        · have h := wk_n g5 h
          by_cases g7 : v1 = 4
          · have h := wk_p g7 h
            refine lv_tableIn (off := 109) (tgt := 110) hx hb dX2_tell_1 (by rw [g7]; decide) (by rw [g7]; decide) (by rw [g7]; rfl) (by decide) ?_
            refine lv_aload_n hx hb dX2_tell_110 rfl (lv_at hl 0 rfl) ?_
            refine wk_get (ref := "WokenRooms$Room") (C := RX2) (T := TX2) (N := 15) (ci := 2) (v := .int (M 6 ch ri 7)) hx hb hts (fun _ h => List.mem_cons_of_mem _ (List.mem_append_right _ h)) hown hK hP (wk_l6 hL hc hi 6 (by decide) (by decide)) wk_c6 rfl 7 (by decide) q2 rfl rfl dX2_tell_111 ?_
            refine lv_iconst (v := 1) hx hb dX2_tell_114 (by decide) ?_
            refine lv_icmp_eq (tgt := 126) hx hb dX2_tell_115 (by decide) (fun g8 => ?_) (fun g8 => ?_)
            · have h := wk_p g8 h
              exact w_X2_tell_126 CX RT hc hi h (lv_sub hl [0] rfl) hP hS
            · have h := wk_n g8 h
              refine lv_aload_n hx hb dX2_tell_118 rfl (lv_at hl 0 rfl) ?_
              refine wk_get (ref := "WokenRooms$Room") (C := RX2) (T := TX2) (N := 15) (ci := 2) (v := .int (M 6 ch ri 7)) hx hb hts (fun _ h => List.mem_cons_of_mem _ (List.mem_append_right _ h)) hown hK hP (wk_l6 hL hc hi 6 (by decide) (by decide)) wk_c6 rfl 7 (by decide) q2 rfl rfl dX2_tell_119 ?_
              refine lv_iconst (v := 3) hx hb dX2_tell_122 (by decide) ?_
              refine lv_icmp_ne (tgt := 133) hx hb dX2_tell_123 (by decide) (fun g9 => ?_) (fun g9 => ?_)
              · have h := wk_n g9 h
                refine lv_iconst (v := 0) hx hb dX2_tell_133 (by decide) ?_
                exact RT _ _ _ _ _ _ h hP hS dX2_tell_134
              · have h := wk_p g9 h
                exact w_X2_tell_126 CX RT hc hi h (lv_sub hl [0] rfl) hP hS
          · have h := wk_n g7 h
            by_cases g10 : v1 = 5
            · have h := wk_p g10 h
              refine lv_tableIn (off := 134) (tgt := 135) hx hb dX2_tell_1 (by rw [g10]; decide) (by rw [g10]; decide) (by rw [g10]; rfl) (by decide) ?_
              refine lv_aload_n hx hb dX2_tell_135 rfl (lv_at hl 0 rfl) ?_
              refine wk_get (ref := "WokenRooms$Room") (C := RX2) (T := TX2) (N := 15) (ci := 2) (v := .int (M 6 ch ri 7)) hx hb hts (fun _ h => List.mem_cons_of_mem _ (List.mem_append_right _ h)) hown hK hP (wk_l6 hL hc hi 6 (by decide) (by decide)) wk_c6 rfl 7 (by decide) q2 rfl rfl dX2_tell_136 ?_
              refine lv_iconst (v := 2) hx hb dX2_tell_139 (by decide) ?_
              refine lv_icmp_ne (tgt := 150) hx hb dX2_tell_140 (by decide) (fun g11 => ?_) (fun g11 => ?_)
              · have h := wk_n g11 h
                refine lv_iconst (v := 0) hx hb dX2_tell_150 (by decide) ?_
                exact RT _ _ _ _ _ _ h hP hS dX2_tell_151
              · have h := wk_p g11 h
                refine lv_aload_n hx hb dX2_tell_143 rfl (lv_at hl 0 rfl) ?_
                refine wk_get (ref := "WokenRooms$Room") (C := RX2) (T := TX2) (N := 15) (ci := 2) (v := .int (M 6 ch ri 9)) hx hb hts (fun _ h => List.mem_cons_of_mem _ (List.mem_append_right _ h)) hown hK hP (wk_l6 hL hc hi 6 (by decide) (by decide)) wk_c6 rfl 9 (by decide) q6 rfl rfl dX2_tell_144 ?_
                refine lv_goto (tgt := 151) hx hb dX2_tell_147 (by decide) ?_
                exact RT _ _ _ _ _ _ h hP hS dX2_tell_151
            · have h := wk_n g10 h
              by_cases g12 : v1 = 6
              · have h := wk_p g12 h
                refine lv_tableIn (off := 151) (tgt := 152) hx hb dX2_tell_1 (by rw [g12]; decide) (by rw [g12]; decide) (by rw [g12]; rfl) (by decide) ?_
                refine lv_aload_n hx hb dX2_tell_152 rfl (lv_at hl 0 rfl) ?_
                refine wk_get (ref := "WokenRooms$Room") (C := RX2) (T := TX2) (N := 15) (ci := 2) (v := .int (M 6 ch ri 5)) hx hb hts (fun _ h => List.mem_cons_of_mem _ (List.mem_append_right _ h)) hown hK hP (wk_l6 hL hc hi 6 (by decide) (by decide)) wk_c6 rfl 5 (by decide) q7 rfl rfl dX2_tell_153 ?_
                exact RT _ _ _ _ _ _ h hP hS dX2_tell_156
              · have h := wk_n g12 h
                by_cases g13 : v1 = 7
                · have h := wk_p g13 h
                  refine lv_tableIn (off := 156) (tgt := 157) hx hb dX2_tell_1 (by rw [g13]; decide) (by rw [g13]; decide) (by rw [g13]; rfl) (by decide) ?_
                  refine lv_aload_n hx hb dX2_tell_157 rfl (lv_at hl 0 rfl) ?_
                  refine wk_get (ref := "WokenRooms$Room") (C := RX2) (T := TX2) (N := 15) (ci := 2) (v := .int (M 6 ch ri 6)) hx hb hts (fun _ h => List.mem_cons_of_mem _ (List.mem_append_right _ h)) hown hK hP (wk_l6 hL hc hi 6 (by decide) (by decide)) wk_c6 rfl 6 (by decide) q8 rfl rfl dX2_tell_158 ?_
                  exact RT _ _ _ _ _ _ h hP hS dX2_tell_161
                · have h := wk_n g13 h
                  by_cases g14 : v1 = 8
                  · have h := wk_p g14 h
                    refine lv_tableIn (off := 176) (tgt := 177) hx hb dX2_tell_1 (by rw [g14]; decide) (by rw [g14]; decide) (by rw [g14]; rfl) (by decide) ?_
                    refine lv_aload_n hx hb dX2_tell_177 rfl (lv_at hl 0 rfl) ?_
                    refine wk_get (ref := "WokenRooms$Room") (C := RX2) (T := TX2) (N := 15) (ci := 2) (v := .int (M 6 ch ri 10)) hx hb hts (fun _ h => List.mem_cons_of_mem _ (List.mem_append_right _ h)) hown hK hP (wk_l6 hL hc hi 6 (by decide) (by decide)) wk_c6 rfl 10 (by decide) q9 rfl rfl dX2_tell_178 ?_
                    refine lv_iconst (v := 2) hx hb dX2_tell_181 (by decide) ?_
                    refine lv_icmp_ge (tgt := 190) hx hb dX2_tell_182 (by decide) (fun g15 => ?_) (fun g15 => ?_)
                    · have h := wk_p g15 h
                      refine lv_aload_n hx hb dX2_tell_190 rfl (lv_at hl 0 rfl) ?_
                      refine wk_get (ref := "WokenRooms$Room") (C := RX2) (T := TX2) (N := 15) (ci := 2) (v := .int (M 6 ch ri 14)) hx hb hts (fun _ h => List.mem_cons_of_mem _ (List.mem_append_right _ h)) hown hK hP (wk_l6 hL hc hi 6 (by decide) (by decide)) wk_c6 rfl 14 (by decide) q12 rfl rfl dX2_tell_191 ?_
                      exact RT _ _ _ _ _ _ h hP hS dX2_tell_194
                    · have h := wk_n g15 h
                      refine lv_bipush (v := (-4)) hx hb dX2_tell_185 (by decide) ?_
                      refine lv_goto (tgt := 194) hx hb dX2_tell_187 (by decide) ?_
                      exact RT _ _ _ _ _ _ h hP hS dX2_tell_194
                  · have h := wk_n g14 h
                    by_cases g16 : v1 = 9
                    · have h := wk_p g16 h
                      refine lv_tableIn (off := 161) (tgt := 162) hx hb dX2_tell_1 (by rw [g16]; decide) (by rw [g16]; decide) (by rw [g16]; rfl) (by decide) ?_
                      refine lv_aload_n hx hb dX2_tell_162 rfl (lv_at hl 0 rfl) ?_
                      refine wk_get (ref := "WokenRooms$Room") (C := RX2) (T := TX2) (N := 15) (ci := 2) (v := .int (M 6 ch ri 10)) hx hb hts (fun _ h => List.mem_cons_of_mem _ (List.mem_append_right _ h)) hown hK hP (wk_l6 hL hc hi 6 (by decide) (by decide)) wk_c6 rfl 10 (by decide) q9 rfl rfl dX2_tell_163 ?_
                      exact RT _ _ _ _ _ _ h hP hS dX2_tell_166
                    · have h := wk_n g16 h
                      by_cases g17 : v1 = 10
                      · have h := wk_p g17 h
                        refine lv_tableIn (off := 166) (tgt := 167) hx hb dX2_tell_1 (by rw [g17]; decide) (by rw [g17]; decide) (by rw [g17]; rfl) (by decide) ?_
                        refine lv_aload_n hx hb dX2_tell_167 rfl (lv_at hl 0 rfl) ?_
                        refine wk_get (ref := "WokenRooms$Room") (C := RX2) (T := TX2) (N := 15) (ci := 2) (v := .int (M 6 ch ri 11)) hx hb hts (fun _ h => List.mem_cons_of_mem _ (List.mem_append_right _ h)) hown hK hP (wk_l6 hL hc hi 6 (by decide) (by decide)) wk_c6 rfl 11 (by decide) q10 rfl rfl dX2_tell_168 ?_
                        exact RT _ _ _ _ _ _ h hP hS dX2_tell_171
                      · have h := wk_n g17 h
                        by_cases g18 : v1 = 11
                        · have h := wk_p g18 h
                          refine lv_tableIn (off := 171) (tgt := 172) hx hb dX2_tell_1 (by rw [g18]; decide) (by rw [g18]; decide) (by rw [g18]; rfl) (by decide) ?_
                          refine lv_aload_n hx hb dX2_tell_172 rfl (lv_at hl 0 rfl) ?_
                          refine wk_get (ref := "WokenRooms$Room") (C := RX2) (T := TX2) (N := 15) (ci := 2) (v := .int (M 6 ch ri 12)) hx hb hts (fun _ h => List.mem_cons_of_mem _ (List.mem_append_right _ h)) hown hK hP (wk_l6 hL hc hi 6 (by decide) (by decide)) wk_c6 rfl 12 (by decide) q11 rfl rfl dX2_tell_173 ?_
                          exact RT _ _ _ _ _ _ h hP hS dX2_tell_176
                        · have h := wk_n g18 h
                          refine lv_tableOut (tgt := 177) hx hb dX2_tell_1 (by have q0 := lv_neT g1 (a := 0) (by decide); have q1 := lv_neT g2 (a := 1) (by decide); have q2 := lv_neT g3 (a := 2) (by decide); have q3 := lv_neT g5 (a := 3) (by decide); have q4 := lv_neT g7 (a := 4) (by decide); have q5 := lv_neT g10 (a := 5) (by decide); have q6 := lv_neT g12 (a := 6) (by decide); have q7 := lv_neT g13 (a := 7) (by decide); have q8 := lv_neT g14 (a := 8) (by decide); have q9 := lv_neT g16 (a := 9) (by decide); have q10 := lv_neT g17 (a := 10) (by decide); have q11 := lv_neT g18 (a := 11) (by decide); omega) (by decide) ?_
                          refine lv_aload_n hx hb dX2_tell_177 rfl (lv_at hl 0 rfl) ?_
                          refine wk_get (ref := "WokenRooms$Room") (C := RX2) (T := TX2) (N := 15) (ci := 2) (v := .int (M 6 ch ri 10)) hx hb hts (fun _ h => List.mem_cons_of_mem _ (List.mem_append_right _ h)) hown hK hP (wk_l6 hL hc hi 6 (by decide) (by decide)) wk_c6 rfl 10 (by decide) q9 rfl rfl dX2_tell_178 ?_
                          refine lv_iconst (v := 2) hx hb dX2_tell_181 (by decide) ?_
                          refine lv_icmp_ge (tgt := 190) hx hb dX2_tell_182 (by decide) (fun g19 => ?_) (fun g19 => ?_)
                          · have h := wk_p g19 h
                            refine lv_aload_n hx hb dX2_tell_190 rfl (lv_at hl 0 rfl) ?_
                            refine wk_get (ref := "WokenRooms$Room") (C := RX2) (T := TX2) (N := 15) (ci := 2) (v := .int (M 6 ch ri 14)) hx hb hts (fun _ h => List.mem_cons_of_mem _ (List.mem_append_right _ h)) hown hK hP (wk_l6 hL hc hi 6 (by decide) (by decide)) wk_c6 rfl 14 (by decide) q12 rfl rfl dX2_tell_191 ?_
                            exact RT _ _ _ _ _ _ h hP hS dX2_tell_194
                          · have h := wk_n g19 h
                            refine lv_bipush (v := (-4)) hx hb dX2_tell_185 (by decide) ?_
                            refine lv_goto (tgt := 194) hx hb dX2_tell_187 (by decide) ?_
                            exact RT _ _ _ _ _ _ h hP hS dX2_tell_194
set_option maxRecDepth 100000 in
set_option maxHeartbeats 4000000 in
theorem m_X2_tell (l : Launch) {D : va_G} {y : Nat → ClassId} {B : Nat → Nat → Nat → Nat} {Lk : Nat → Nat → Nat → Prop} (hI : wk_I B Lk) (hL : wk_L Lk) {ch : Nat} {ri : Nat} (hc : ch < 7) (hi : ri < 8) {v1 : Int32} {M : wk_T} {r0 : Int32} {MM : wk_T} (hf : f_X2_tell ch ri v1 M = some (r0, MM)) : wk_Mi l yX2_tell wsX2_tell 0 0 D y B Lk [.ref (B 6 ch ri), .int v1] M r0 MM :=
  wk_ofI (own := RX2) (bytes := cX2_tell) (maxL := 2) (ret := some .int) (by decide +kernel) rfl rfl (Or.inl rfl) (Nat.le_of_ble_eq_true rfl) hI hL (fun p e s m args below meth c ls CX RTi RTz hl hP hS => w_X2_tell_0 CX (RTi rfl) hc hi hf hl hP hS)
def f_X2_paidInAll (ch : Nat) (ri : Nat) (M : wk_T) : Option (Int32 × wk_T) := (some (((((M 8 ch ri 0) + (M 8 ch ri 1)) + (M 8 ch ri 2)) + (M 8 ch ri 3)), M))
set_option maxRecDepth 20000 in
theorem q_X2_paidInAll {s : State} {args : Array Value} (hts : ∀ w ∈ wsX2_paidInAll, w.before args s = true) : (Cond.fieldLink RX2 15 "WokenRooms$Room" "paid" "[I").before args s = true := hts _ (List.mem_of_getElem? (i := 1) rfl)
set_option maxRecDepth 100000 in
set_option maxHeartbeats 4000000 in
theorem w_X2_paidInAll_0 {ch : Nat} {ri : Nat} {r0 : Int32} (CX : wk_X p l e R s m args below meth c cells slots Q cX2_paidInAll 1 RX2 wsX2_paidInAll D y B Lk A 0 0) (RT : wk_Ri p l e R s m args below meth c cells slots Q cX2_paidInAll D y B Lk A r0 MM) (hc : ch < 7) (hi : ri < 8) {M : wk_T} {H : Heap} {locs : List Loc} {ls : Array Slot} (h : f_X2_paidInAll ch ri M = some (r0, MM)) (hl : lv_has ls 1 [(0, .ref (B 6 ch ri))]) (hP : wk_H D y B Lk M H) (hS : va_S A s.heap H locs) : W p l e R s m args below meth c H locs cells slots Q (F0 m 0 ls []) := by
  obtain ⟨⟨hx, hb, hml, hown, hts⟩, hK, hI, hL, hA, hfr, hlo, hcs⟩ := id CX
  have q1 := q_X2_paidInAll hts
  unfold f_X2_paidInAll at h
  refine lv_aload_n hx hb dX2_paidInAll_0 rfl (lv_at hl 0 rfl) ?_
  refine wk_get (ref := "WokenRooms$Room") (C := RX2) (T := TX2) (N := 15) (ci := 2) (v := .ref (B 8 ch ri)) hx hb hts (fun _ h => List.mem_cons_of_mem _ (List.mem_append_right _ h)) hown hK hP (wk_l6 hL hc hi 6 (by decide) (by decide)) wk_c6 rfl 1 (by decide) q1 rfl rfl dX2_paidInAll_1 ?_
  refine lv_iconst (v := 0) hx hb dX2_paidInAll_4 (by decide) ?_
  refine wk_iald (j := 0) hx hb hK hP (wk_l6 hL hc hi 8 (by decide) (by decide)) wk_c8 (by decide) (by decide) dX2_paidInAll_5 ?_
  refine lv_aload_n hx hb dX2_paidInAll_6 rfl (lv_at hl 0 rfl) ?_
  refine wk_get (ref := "WokenRooms$Room") (C := RX2) (T := TX2) (N := 15) (ci := 2) (v := .ref (B 8 ch ri)) hx hb hts (fun _ h => List.mem_cons_of_mem _ (List.mem_append_right _ h)) hown hK hP (wk_l6 hL hc hi 6 (by decide) (by decide)) wk_c6 rfl 1 (by decide) q1 rfl rfl dX2_paidInAll_7 ?_
  refine lv_iconst (v := 1) hx hb dX2_paidInAll_10 (by decide) ?_
  refine wk_iald (j := 1) hx hb hK hP (wk_l6 hL hc hi 8 (by decide) (by decide)) wk_c8 (by decide) (by decide) dX2_paidInAll_11 ?_
  refine lv_iadd hx hb dX2_paidInAll_12 ?_
  refine lv_aload_n hx hb dX2_paidInAll_13 rfl (lv_at hl 0 rfl) ?_
  refine wk_get (ref := "WokenRooms$Room") (C := RX2) (T := TX2) (N := 15) (ci := 2) (v := .ref (B 8 ch ri)) hx hb hts (fun _ h => List.mem_cons_of_mem _ (List.mem_append_right _ h)) hown hK hP (wk_l6 hL hc hi 6 (by decide) (by decide)) wk_c6 rfl 1 (by decide) q1 rfl rfl dX2_paidInAll_14 ?_
  refine lv_iconst (v := 2) hx hb dX2_paidInAll_17 (by decide) ?_
  refine wk_iald (j := 2) hx hb hK hP (wk_l6 hL hc hi 8 (by decide) (by decide)) wk_c8 (by decide) (by decide) dX2_paidInAll_18 ?_
  refine lv_iadd hx hb dX2_paidInAll_19 ?_
  refine lv_aload_n hx hb dX2_paidInAll_20 rfl (lv_at hl 0 rfl) ?_
  refine wk_get (ref := "WokenRooms$Room") (C := RX2) (T := TX2) (N := 15) (ci := 2) (v := .ref (B 8 ch ri)) hx hb hts (fun _ h => List.mem_cons_of_mem _ (List.mem_append_right _ h)) hown hK hP (wk_l6 hL hc hi 6 (by decide) (by decide)) wk_c6 rfl 1 (by decide) q1 rfl rfl dX2_paidInAll_21 ?_
  refine lv_iconst (v := 3) hx hb dX2_paidInAll_24 (by decide) ?_
  refine wk_iald (j := 3) hx hb hK hP (wk_l6 hL hc hi 8 (by decide) (by decide)) wk_c8 (by decide) (by decide) dX2_paidInAll_25 ?_
  refine lv_iadd hx hb dX2_paidInAll_26 ?_
  exact RT _ _ _ _ _ _ h hP hS dX2_paidInAll_27
set_option maxRecDepth 100000 in
set_option maxHeartbeats 4000000 in
theorem m_X2_paidInAll (l : Launch) {D : va_G} {y : Nat → ClassId} {B : Nat → Nat → Nat → Nat} {Lk : Nat → Nat → Nat → Prop} (hI : wk_I B Lk) (hL : wk_L Lk) {ch : Nat} {ri : Nat} (hc : ch < 7) (hi : ri < 8) {M : wk_T} {r0 : Int32} {MM : wk_T} (hf : f_X2_paidInAll ch ri M = some (r0, MM)) : wk_Mi l yX2_paidInAll wsX2_paidInAll 0 0 D y B Lk [.ref (B 6 ch ri)] M r0 MM :=
  wk_ofI (own := RX2) (bytes := cX2_paidInAll) (maxL := 1) (ret := some .int) (by decide +kernel) rfl rfl (Or.inl rfl) (Nat.le_of_ble_eq_true rfl) hI hL (fun p e s m args below meth c ls CX RTi RTz hl hP hS => w_X2_paidInAll_0 CX (RTi rfl) hc hi hf hl hP hS)
def f_X2_startWaking (ch : Nat) (ri : Nat) (M : wk_T) : Option (Unit × wk_T) := wk_mu (wk_up M 8 ch ri 0 ((M 8 ch ri 0) + (M 7 ch ri 0))) (fun M1 => wk_mu (wk_up M1 6 ch ri 7 1) (fun M2 => wk_mu (wk_up M2 6 ch ri 8 (M2 7 ch ri 1)) (fun M3 => wk_mu (wk_up M3 6 ch ri 12 ((M3 6 ch ri 12) + 1)) (fun M4 => (some ((), M4))))))
set_option maxRecDepth 20000 in
theorem q_X2_startWaking {s : State} {args : Array Value} (hts : ∀ w ∈ wsX2_startWaking, w.before args s = true) : (Cond.fieldLink RX2 15 "WokenRooms$Room" "paid" "[I").before args s = true ∧ (Cond.fieldLink RX2 9 "WokenRooms$Room" "costs" "[I").before args s = true ∧ (Cond.fieldLink RX2 34 "WokenRooms$Room" "state" "I").before args s = true ∧ (Cond.fieldLink RX2 37 "WokenRooms$Room" "left" "I").before args s = true ∧ (Cond.fieldLink RX2 49 "WokenRooms$Room" "woken" "I").before args s = true := ⟨hts _ (List.mem_of_getElem? (i := 1) rfl), hts _ (List.mem_of_getElem? (i := 2) rfl), hts _ (List.mem_of_getElem? (i := 3) rfl), hts _ (List.mem_of_getElem? (i := 4) rfl), hts _ (List.mem_of_getElem? (i := 5) rfl)⟩
set_option maxRecDepth 100000 in
set_option maxHeartbeats 4000000 in
theorem w_X2_startWaking_0 {ch : Nat} {ri : Nat} (CX : wk_X p l e R s m args below meth c cells slots Q cX2_startWaking 1 RX2 wsX2_startWaking D y B Lk A 0 0) (RT : wk_Rv p l e R s m args below meth c cells slots Q cX2_startWaking D y B Lk A MM) (hc : ch < 7) (hi : ri < 8) {M : wk_T} {H : Heap} {locs : List Loc} {ls : Array Slot} (h : f_X2_startWaking ch ri M = some ((), MM)) (hl : lv_has ls 1 [(0, .ref (B 6 ch ri))]) (hP : wk_H D y B Lk M H) (hS : va_S A s.heap H locs) : W p l e R s m args below meth c H locs cells slots Q (F0 m 0 ls []) := by
  obtain ⟨⟨hx, hb, hml, hown, hts⟩, hK, hI, hL, hA, hfr, hlo, hcs⟩ := id CX
  obtain ⟨q1, q2, q3, q4, q5⟩ := q_X2_startWaking hts
  unfold f_X2_startWaking at h
  refine lv_aload_n hx hb dX2_startWaking_0 rfl (lv_at hl 0 rfl) ?_
  refine wk_get (ref := "WokenRooms$Room") (C := RX2) (T := TX2) (N := 15) (ci := 2) (v := .ref (B 8 ch ri)) hx hb hts (fun _ h => List.mem_cons_of_mem _ (List.mem_append_right _ h)) hown hK hP (wk_l6 hL hc hi 6 (by decide) (by decide)) wk_c6 rfl 1 (by decide) q1 rfl rfl dX2_startWaking_1 ?_
  refine lv_iconst (v := 0) hx hb dX2_startWaking_4 (by decide) ?_
  refine lv_dup2_11 hx hb dX2_startWaking_5 rfl rfl ?_
  refine wk_iald (j := 0) hx hb hK hP (wk_l6 hL hc hi 8 (by decide) (by decide)) wk_c8 (by decide) (by decide) dX2_startWaking_6 ?_
  refine lv_aload_n hx hb dX2_startWaking_7 rfl (lv_at hl 0 rfl) ?_
  refine wk_get (ref := "WokenRooms$Room") (C := RX2) (T := TX2) (N := 15) (ci := 2) (v := .ref (B 7 ch ri)) hx hb hts (fun _ h => List.mem_cons_of_mem _ (List.mem_append_right _ h)) hown hK hP (wk_l6 hL hc hi 6 (by decide) (by decide)) wk_c6 rfl 0 (by decide) q2 rfl rfl dX2_startWaking_8 ?_
  refine lv_iconst (v := 0) hx hb dX2_startWaking_11 (by decide) ?_
  refine wk_iald (j := 0) hx hb hK hP (wk_l6 hL hc hi 7 (by decide) (by decide)) wk_c7 (by decide) (by decide) dX2_startWaking_12 ?_
  refine lv_iadd hx hb dX2_startWaking_13 ?_
  obtain ⟨M1, eM1, h⟩ := wk_mu_e h
  refine wk_iast (j := 0) hx hb hK hP hI hS hA (wk_l6 hL hc hi 8 (by decide) (by decide)) wk_c8 (by decide) (by decide) (by rfl) dX2_startWaking_14 (fun H locs hP hS => ?_)
  rw [eM1] at hP
  refine lv_aload_n hx hb dX2_startWaking_15 rfl (lv_at hl 0 rfl) ?_
  refine lv_iconst (v := 1) hx hb dX2_startWaking_16 (by decide) ?_
  obtain ⟨M2, eM2, h⟩ := wk_mu_e h
  refine wk_put (ref := "WokenRooms$Room") (C := RX2) (T := TX2) (N := 15) (ci := 2) hx hb hts (fun _ h => List.mem_cons_of_mem _ (List.mem_append_right _ h)) tyX2 tyX2_ok nmX2 hown hK hP hI hS hA (wk_l6 hL hc hi 6 (by decide) (by decide)) wk_c6 rfl 7 (by decide) q3 rfl rfl (by decide +kernel) (Nat.le_of_ble_eq_true rfl) (by rfl) dX2_startWaking_17 (fun H locs hP hS => ?_)
  rw [eM2] at hP
  refine lv_aload_n hx hb dX2_startWaking_20 rfl (lv_at hl 0 rfl) ?_
  refine lv_aload_n hx hb dX2_startWaking_21 rfl (lv_at hl 0 rfl) ?_
  refine wk_get (ref := "WokenRooms$Room") (C := RX2) (T := TX2) (N := 15) (ci := 2) (v := .ref (B 7 ch ri)) hx hb hts (fun _ h => List.mem_cons_of_mem _ (List.mem_append_right _ h)) hown hK hP (wk_l6 hL hc hi 6 (by decide) (by decide)) wk_c6 rfl 0 (by decide) q2 rfl rfl dX2_startWaking_22 ?_
  refine lv_iconst (v := 1) hx hb dX2_startWaking_25 (by decide) ?_
  refine wk_iald (j := 1) hx hb hK hP (wk_l6 hL hc hi 7 (by decide) (by decide)) wk_c7 (by decide) (by decide) dX2_startWaking_26 ?_
  obtain ⟨M3, eM3, h⟩ := wk_mu_e h
  refine wk_put (ref := "WokenRooms$Room") (C := RX2) (T := TX2) (N := 15) (ci := 2) hx hb hts (fun _ h => List.mem_cons_of_mem _ (List.mem_append_right _ h)) tyX2 tyX2_ok nmX2 hown hK hP hI hS hA (wk_l6 hL hc hi 6 (by decide) (by decide)) wk_c6 rfl 8 (by decide) q4 rfl rfl (by decide +kernel) (Nat.le_of_ble_eq_true rfl) (by rfl) dX2_startWaking_27 (fun H locs hP hS => ?_)
  rw [eM3] at hP
  refine lv_aload_n hx hb dX2_startWaking_30 rfl (lv_at hl 0 rfl) ?_
  refine lv_dup hx hb dX2_startWaking_31 rfl ?_
  refine wk_get (ref := "WokenRooms$Room") (C := RX2) (T := TX2) (N := 15) (ci := 2) (v := .int (M3 6 ch ri 12)) hx hb hts (fun _ h => List.mem_cons_of_mem _ (List.mem_append_right _ h)) hown hK hP (wk_l6 hL hc hi 6 (by decide) (by decide)) wk_c6 rfl 12 (by decide) q5 rfl rfl dX2_startWaking_32 ?_
  refine lv_iconst (v := 1) hx hb dX2_startWaking_35 (by decide) ?_
  refine lv_iadd hx hb dX2_startWaking_36 ?_
  obtain ⟨M4, eM4, h⟩ := wk_mu_e h
  refine wk_put (ref := "WokenRooms$Room") (C := RX2) (T := TX2) (N := 15) (ci := 2) hx hb hts (fun _ h => List.mem_cons_of_mem _ (List.mem_append_right _ h)) tyX2 tyX2_ok nmX2 hown hK hP hI hS hA (wk_l6 hL hc hi 6 (by decide) (by decide)) wk_c6 rfl 12 (by decide) q5 rfl rfl (by decide +kernel) (Nat.le_of_ble_eq_true rfl) (by rfl) dX2_startWaking_37 (fun H locs hP hS => ?_)
  rw [eM4] at hP
  exact RT _ _ _ _ _ h hP hS dX2_startWaking_40
set_option maxRecDepth 100000 in
set_option maxHeartbeats 4000000 in
theorem m_X2_startWaking (l : Launch) {D : va_G} {y : Nat → ClassId} {B : Nat → Nat → Nat → Nat} {Lk : Nat → Nat → Nat → Prop} (hI : wk_I B Lk) (hL : wk_L Lk) {ch : Nat} {ri : Nat} (hc : ch < 7) (hi : ri < 8) {M : wk_T} {MM : wk_T} (hf : f_X2_startWaking ch ri M = some ((), MM)) : wk_Mv l yX2_startWaking wsX2_startWaking 0 0 D y B Lk [.ref (B 6 ch ri)] M MM :=
  wk_ofV (own := RX2) (bytes := cX2_startWaking) (maxL := 1) (by decide +kernel) rfl rfl (Nat.le_of_ble_eq_true rfl) hI hL (fun p e s m args below meth c ls CX RT hl hP hS => w_X2_startWaking_0 CX RT hc hi hf hl hP hS)
def f_X2_begin_17 (ch : Nat) (ri : Nat) (v1 : Int32) (v2 : Int32) (v3 : Int32) (M : wk_T) : Option (Unit × wk_T) := wk_mu (wk_up M 6 ch ri 13 (v1 + v3)) (fun M1 => wk_mu (wk_up M1 6 ch ri 10 ((M1 6 ch ri 10) + 1)) (fun M2 => wk_mu (wk_up M2 6 ch ri 11 ((M2 6 ch ri 11) + (v1 - v2))) (fun M3 => wk_mu (wk_up M3 6 ch ri 7 3) (fun M4 => wk_mu (wk_up M4 6 ch ri 8 v3) (fun M5 => (some ((), M5)))))))
def f_X2_begin (ch : Nat) (ri : Nat) (v1 : Int32) (v2 : Int32) (v3 : Int32) (M : wk_T) : Option (Unit × wk_T) := (if (M 6 ch ri 10) ≤ 0 then (f_X2_begin_17 ch ri v1 v2 v3 M) else wk_mu (wk_up M 6 ch ri 14 (v1 - (M 6 ch ri 13))) (fun M2 => (f_X2_begin_17 ch ri v1 v2 v3 M2)))
set_option maxRecDepth 20000 in
theorem q_X2_begin {s : State} {args : Array Value} (hts : ∀ w ∈ wsX2_begin, w.before args s = true) : (Cond.fieldLink RX2 43 "WokenRooms$Room" "begun" "I").before args s = true ∧ (Cond.fieldLink RX2 52 "WokenRooms$Room" "latestEnd" "I").before args s = true ∧ (Cond.fieldLink RX2 55 "WokenRooms$Room" "gap" "I").before args s = true ∧ (Cond.fieldLink RX2 46 "WokenRooms$Room" "late" "I").before args s = true ∧ (Cond.fieldLink RX2 34 "WokenRooms$Room" "state" "I").before args s = true ∧ (Cond.fieldLink RX2 37 "WokenRooms$Room" "left" "I").before args s = true := ⟨hts _ (List.mem_of_getElem? (i := 1) rfl), hts _ (List.mem_of_getElem? (i := 2) rfl), hts _ (List.mem_of_getElem? (i := 3) rfl), hts _ (List.mem_of_getElem? (i := 4) rfl), hts _ (List.mem_of_getElem? (i := 5) rfl), hts _ (List.mem_of_getElem? (i := 6) rfl)⟩
set_option maxRecDepth 100000 in
set_option maxHeartbeats 4000000 in
theorem w_X2_begin_17 {ch : Nat} {ri : Nat} (CX : wk_X p l e R s m args below meth c cells slots Q cX2_begin 4 RX2 wsX2_begin D y B Lk A 0 0) (RT : wk_Rv p l e R s m args below meth c cells slots Q cX2_begin D y B Lk A MM) (hc : ch < 7) (hi : ri < 8) {v1 : Int32} {v2 : Int32} {v3 : Int32} {M : wk_T} {H : Heap} {locs : List Loc} {ls : Array Slot} (h : f_X2_begin_17 ch ri v1 v2 v3 M = some ((), MM)) (hl : lv_has ls 4 [(0, .ref (B 6 ch ri)), (1, .int v1), (2, .int v2), (3, .int v3)]) (hP : wk_H D y B Lk M H) (hS : va_S A s.heap H locs) : W p l e R s m args below meth c H locs cells slots Q (F0 m 17 ls []) := by
  obtain ⟨⟨hx, hb, hml, hown, hts⟩, hK, hI, hL, hA, hfr, hlo, hcs⟩ := id CX
  obtain ⟨q1, q2, q3, q4, q5, q6⟩ := q_X2_begin hts
  unfold f_X2_begin_17 at h
  refine lv_aload_n hx hb dX2_begin_17 rfl (lv_at hl 0 rfl) ?_
  refine lv_iload_n hx hb dX2_begin_18 rfl (lv_at hl 1 rfl) ?_
  refine lv_iload_n hx hb dX2_begin_19 rfl (lv_at hl 3 rfl) ?_
  refine lv_iadd hx hb dX2_begin_20 ?_
  obtain ⟨M1, eM1, h⟩ := wk_mu_e h
  refine wk_put (ref := "WokenRooms$Room") (C := RX2) (T := TX2) (N := 15) (ci := 2) hx hb hts (fun _ h => List.mem_cons_of_mem _ (List.mem_append_right _ h)) tyX2 tyX2_ok nmX2 hown hK hP hI hS hA (wk_l6 hL hc hi 6 (by decide) (by decide)) wk_c6 rfl 13 (by decide) q2 rfl rfl (by decide +kernel) (Nat.le_of_ble_eq_true rfl) (by rfl) dX2_begin_21 (fun H locs hP hS => ?_)
  rw [eM1] at hP
  refine lv_aload_n hx hb dX2_begin_24 rfl (lv_at hl 0 rfl) ?_
  refine lv_dup hx hb dX2_begin_25 rfl ?_
  refine wk_get (ref := "WokenRooms$Room") (C := RX2) (T := TX2) (N := 15) (ci := 2) (v := .int (M1 6 ch ri 10)) hx hb hts (fun _ h => List.mem_cons_of_mem _ (List.mem_append_right _ h)) hown hK hP (wk_l6 hL hc hi 6 (by decide) (by decide)) wk_c6 rfl 10 (by decide) q1 rfl rfl dX2_begin_26 ?_
  refine lv_iconst (v := 1) hx hb dX2_begin_29 (by decide) ?_
  refine lv_iadd hx hb dX2_begin_30 ?_
  obtain ⟨M2, eM2, h⟩ := wk_mu_e h
  refine wk_put (ref := "WokenRooms$Room") (C := RX2) (T := TX2) (N := 15) (ci := 2) hx hb hts (fun _ h => List.mem_cons_of_mem _ (List.mem_append_right _ h)) tyX2 tyX2_ok nmX2 hown hK hP hI hS hA (wk_l6 hL hc hi 6 (by decide) (by decide)) wk_c6 rfl 10 (by decide) q1 rfl rfl (by decide +kernel) (Nat.le_of_ble_eq_true rfl) (by rfl) dX2_begin_31 (fun H locs hP hS => ?_)
  rw [eM2] at hP
  refine lv_aload_n hx hb dX2_begin_34 rfl (lv_at hl 0 rfl) ?_
  refine lv_dup hx hb dX2_begin_35 rfl ?_
  refine wk_get (ref := "WokenRooms$Room") (C := RX2) (T := TX2) (N := 15) (ci := 2) (v := .int (M2 6 ch ri 11)) hx hb hts (fun _ h => List.mem_cons_of_mem _ (List.mem_append_right _ h)) hown hK hP (wk_l6 hL hc hi 6 (by decide) (by decide)) wk_c6 rfl 11 (by decide) q4 rfl rfl dX2_begin_36 ?_
  refine lv_iload_n hx hb dX2_begin_39 rfl (lv_at hl 1 rfl) ?_
  refine lv_iload_n hx hb dX2_begin_40 rfl (lv_at hl 2 rfl) ?_
  refine lv_isub hx hb dX2_begin_41 ?_
  refine lv_iadd hx hb dX2_begin_42 ?_
  obtain ⟨M3, eM3, h⟩ := wk_mu_e h
  refine wk_put (ref := "WokenRooms$Room") (C := RX2) (T := TX2) (N := 15) (ci := 2) hx hb hts (fun _ h => List.mem_cons_of_mem _ (List.mem_append_right _ h)) tyX2 tyX2_ok nmX2 hown hK hP hI hS hA (wk_l6 hL hc hi 6 (by decide) (by decide)) wk_c6 rfl 11 (by decide) q4 rfl rfl (by decide +kernel) (Nat.le_of_ble_eq_true rfl) (by rfl) dX2_begin_43 (fun H locs hP hS => ?_)
  rw [eM3] at hP
  refine lv_aload_n hx hb dX2_begin_46 rfl (lv_at hl 0 rfl) ?_
  refine lv_iconst (v := 3) hx hb dX2_begin_47 (by decide) ?_
  obtain ⟨M4, eM4, h⟩ := wk_mu_e h
  refine wk_put (ref := "WokenRooms$Room") (C := RX2) (T := TX2) (N := 15) (ci := 2) hx hb hts (fun _ h => List.mem_cons_of_mem _ (List.mem_append_right _ h)) tyX2 tyX2_ok nmX2 hown hK hP hI hS hA (wk_l6 hL hc hi 6 (by decide) (by decide)) wk_c6 rfl 7 (by decide) q5 rfl rfl (by decide +kernel) (Nat.le_of_ble_eq_true rfl) (by rfl) dX2_begin_48 (fun H locs hP hS => ?_)
  rw [eM4] at hP
  refine lv_aload_n hx hb dX2_begin_51 rfl (lv_at hl 0 rfl) ?_
  refine lv_iload_n hx hb dX2_begin_52 rfl (lv_at hl 3 rfl) ?_
  obtain ⟨M5, eM5, h⟩ := wk_mu_e h
  refine wk_put (ref := "WokenRooms$Room") (C := RX2) (T := TX2) (N := 15) (ci := 2) hx hb hts (fun _ h => List.mem_cons_of_mem _ (List.mem_append_right _ h)) tyX2 tyX2_ok nmX2 hown hK hP hI hS hA (wk_l6 hL hc hi 6 (by decide) (by decide)) wk_c6 rfl 8 (by decide) q6 rfl rfl (by decide +kernel) (Nat.le_of_ble_eq_true rfl) (by rfl) dX2_begin_53 (fun H locs hP hS => ?_)
  rw [eM5] at hP
  exact RT _ _ _ _ _ h hP hS dX2_begin_56
set_option maxRecDepth 100000 in
set_option maxHeartbeats 4000000 in
theorem w_X2_begin_0 {ch : Nat} {ri : Nat} (CX : wk_X p l e R s m args below meth c cells slots Q cX2_begin 4 RX2 wsX2_begin D y B Lk A 0 0) (RT : wk_Rv p l e R s m args below meth c cells slots Q cX2_begin D y B Lk A MM) (hc : ch < 7) (hi : ri < 8) {v1 : Int32} {v2 : Int32} {v3 : Int32} {M : wk_T} {H : Heap} {locs : List Loc} {ls : Array Slot} (h : f_X2_begin ch ri v1 v2 v3 M = some ((), MM)) (hl : lv_has ls 4 [(0, .ref (B 6 ch ri)), (1, .int v1), (2, .int v2), (3, .int v3)]) (hP : wk_H D y B Lk M H) (hS : va_S A s.heap H locs) : W p l e R s m args below meth c H locs cells slots Q (F0 m 0 ls []) := by
  obtain ⟨⟨hx, hb, hml, hown, hts⟩, hK, hI, hL, hA, hfr, hlo, hcs⟩ := id CX
  obtain ⟨q1, q2, q3, q4, q5, q6⟩ := q_X2_begin hts
  unfold f_X2_begin at h
  refine lv_aload_n hx hb dX2_begin_0 rfl (lv_at hl 0 rfl) ?_
  refine wk_get (ref := "WokenRooms$Room") (C := RX2) (T := TX2) (N := 15) (ci := 2) (v := .int (M 6 ch ri 10)) hx hb hts (fun _ h => List.mem_cons_of_mem _ (List.mem_append_right _ h)) hown hK hP (wk_l6 hL hc hi 6 (by decide) (by decide)) wk_c6 rfl 10 (by decide) q1 rfl rfl dX2_begin_1 ?_
  refine lv_if_le (tgt := 17) hx hb dX2_begin_4 (by decide) (fun g1 => ?_) (fun g1 => ?_)
  · have h := wk_p g1 h
    exact w_X2_begin_17 CX RT hc hi h (lv_sub hl [0, 1, 2, 3] rfl) hP hS
  · have h := wk_n g1 h
    refine lv_aload_n hx hb dX2_begin_7 rfl (lv_at hl 0 rfl) ?_
    refine lv_iload_n hx hb dX2_begin_8 rfl (lv_at hl 1 rfl) ?_
    refine lv_aload_n hx hb dX2_begin_9 rfl (lv_at hl 0 rfl) ?_
    refine wk_get (ref := "WokenRooms$Room") (C := RX2) (T := TX2) (N := 15) (ci := 2) (v := .int (M 6 ch ri 13)) hx hb hts (fun _ h => List.mem_cons_of_mem _ (List.mem_append_right _ h)) hown hK hP (wk_l6 hL hc hi 6 (by decide) (by decide)) wk_c6 rfl 13 (by decide) q2 rfl rfl dX2_begin_10 ?_
    refine lv_isub hx hb dX2_begin_13 ?_
    obtain ⟨M2, eM2, h⟩ := wk_mu_e h
    refine wk_put (ref := "WokenRooms$Room") (C := RX2) (T := TX2) (N := 15) (ci := 2) hx hb hts (fun _ h => List.mem_cons_of_mem _ (List.mem_append_right _ h)) tyX2 tyX2_ok nmX2 hown hK hP hI hS hA (wk_l6 hL hc hi 6 (by decide) (by decide)) wk_c6 rfl 14 (by decide) q3 rfl rfl (by decide +kernel) (Nat.le_of_ble_eq_true rfl) (by rfl) dX2_begin_14 (fun H locs hP hS => ?_)
    rw [eM2] at hP
    exact w_X2_begin_17 CX RT hc hi h (lv_sub hl [0, 1, 2, 3] rfl) hP hS
set_option maxRecDepth 100000 in
set_option maxHeartbeats 4000000 in
theorem m_X2_begin (l : Launch) {D : va_G} {y : Nat → ClassId} {B : Nat → Nat → Nat → Nat} {Lk : Nat → Nat → Nat → Prop} (hI : wk_I B Lk) (hL : wk_L Lk) {ch : Nat} {ri : Nat} (hc : ch < 7) (hi : ri < 8) {v1 : Int32} {v2 : Int32} {v3 : Int32} {M : wk_T} {MM : wk_T} (hf : f_X2_begin ch ri v1 v2 v3 M = some ((), MM)) : wk_Mv l yX2_begin wsX2_begin 0 0 D y B Lk [.ref (B 6 ch ri), .int v1, .int v2, .int v3] M MM :=
  wk_ofV (own := RX2) (bytes := cX2_begin) (maxL := 4) (by decide +kernel) rfl rfl (Nat.le_of_ble_eq_true rfl) hI hL (fun p e s m args below meth c ls CX RT hl hP hS => w_X2_begin_0 CX RT hc hi hf hl hP hS)
def f_X2_isGuessedByGap (ch : Nat) (ri : Nat) (v1 : Int32) (M : wk_T) : Option (Int32 × wk_T) := (if (M 6 ch ri 6) = 2 then (if (M 6 ch ri 10) < 2 then (some (0, M)) else (if (M 6 ch ri 7) = 3 then (some (0, M)) else (if v1 = (((M 6 ch ri 13) + (M 6 ch ri 14)) - (M 7 ch ri 1)) then (some (1, M)) else (some (0, M))))) else (some (0, M)))
set_option maxRecDepth 20000 in
theorem q_X2_isGuessedByGap {s : State} {args : Array Value} (hts : ∀ w ∈ wsX2_isGuessedByGap, w.before args s = true) : (Cond.fieldLink RX2 31 "WokenRooms$Room" "guess" "I").before args s = true ∧ (Cond.fieldLink RX2 43 "WokenRooms$Room" "begun" "I").before args s = true ∧ (Cond.fieldLink RX2 34 "WokenRooms$Room" "state" "I").before args s = true ∧ (Cond.fieldLink RX2 52 "WokenRooms$Room" "latestEnd" "I").before args s = true ∧ (Cond.fieldLink RX2 55 "WokenRooms$Room" "gap" "I").before args s = true ∧ (Cond.fieldLink RX2 9 "WokenRooms$Room" "costs" "[I").before args s = true := ⟨hts _ (List.mem_of_getElem? (i := 1) rfl), hts _ (List.mem_of_getElem? (i := 2) rfl), hts _ (List.mem_of_getElem? (i := 3) rfl), hts _ (List.mem_of_getElem? (i := 4) rfl), hts _ (List.mem_of_getElem? (i := 5) rfl), hts _ (List.mem_of_getElem? (i := 6) rfl)⟩
set_option maxRecDepth 100000 in
set_option maxHeartbeats 4000000 in
theorem w_X2_isGuessedByGap_0 {ch : Nat} {ri : Nat} {r0 : Int32} (CX : wk_X p l e R s m args below meth c cells slots Q cX2_isGuessedByGap 2 RX2 wsX2_isGuessedByGap D y B Lk A 0 0) (RT : wk_Rz p l e R s m args below meth c cells slots Q cX2_isGuessedByGap D y B Lk A r0 MM) (hc : ch < 7) (hi : ri < 8) {v1 : Int32} {M : wk_T} {H : Heap} {locs : List Loc} {ls : Array Slot} (h : f_X2_isGuessedByGap ch ri v1 M = some (r0, MM)) (hl : lv_has ls 2 [(0, .ref (B 6 ch ri)), (1, .int v1)]) (hP : wk_H D y B Lk M H) (hS : va_S A s.heap H locs) : W p l e R s m args below meth c H locs cells slots Q (F0 m 0 ls []) := by
  obtain ⟨⟨hx, hb, hml, hown, hts⟩, hK, hI, hL, hA, hfr, hlo, hcs⟩ := id CX
  obtain ⟨q1, q2, q3, q4, q5, q6⟩ := q_X2_isGuessedByGap hts
  unfold f_X2_isGuessedByGap at h
  refine lv_aload_n hx hb dX2_isGuessedByGap_0 rfl (lv_at hl 0 rfl) ?_
  refine wk_get (ref := "WokenRooms$Room") (C := RX2) (T := TX2) (N := 15) (ci := 2) (v := .int (M 6 ch ri 6)) hx hb hts (fun _ h => List.mem_cons_of_mem _ (List.mem_append_right _ h)) hown hK hP (wk_l6 hL hc hi 6 (by decide) (by decide)) wk_c6 rfl 6 (by decide) q1 rfl rfl dX2_isGuessedByGap_1 ?_
  refine lv_iconst (v := 2) hx hb dX2_isGuessedByGap_4 (by decide) ?_
  refine lv_icmp_ne (tgt := 48) hx hb dX2_isGuessedByGap_5 (by decide) (fun g1 => ?_) (fun g1 => ?_)
  · have h := wk_n g1 h
    refine lv_iconst (v := 0) hx hb dX2_isGuessedByGap_48 (by decide) ?_
    exact RT _ _ _ _ _ _ (Or.inl rfl) h hP hS dX2_isGuessedByGap_49
  · have h := wk_p g1 h
    refine lv_aload_n hx hb dX2_isGuessedByGap_8 rfl (lv_at hl 0 rfl) ?_
    refine wk_get (ref := "WokenRooms$Room") (C := RX2) (T := TX2) (N := 15) (ci := 2) (v := .int (M 6 ch ri 10)) hx hb hts (fun _ h => List.mem_cons_of_mem _ (List.mem_append_right _ h)) hown hK hP (wk_l6 hL hc hi 6 (by decide) (by decide)) wk_c6 rfl 10 (by decide) q2 rfl rfl dX2_isGuessedByGap_9 ?_
    refine lv_iconst (v := 2) hx hb dX2_isGuessedByGap_12 (by decide) ?_
    refine lv_icmp_lt (tgt := 48) hx hb dX2_isGuessedByGap_13 (by decide) (fun g2 => ?_) (fun g2 => ?_)
    · have h := wk_p g2 h
      refine lv_iconst (v := 0) hx hb dX2_isGuessedByGap_48 (by decide) ?_
      exact RT _ _ _ _ _ _ (Or.inl rfl) h hP hS dX2_isGuessedByGap_49
    · have h := wk_n g2 h
      refine lv_aload_n hx hb dX2_isGuessedByGap_16 rfl (lv_at hl 0 rfl) ?_
      refine wk_get (ref := "WokenRooms$Room") (C := RX2) (T := TX2) (N := 15) (ci := 2) (v := .int (M 6 ch ri 7)) hx hb hts (fun _ h => List.mem_cons_of_mem _ (List.mem_append_right _ h)) hown hK hP (wk_l6 hL hc hi 6 (by decide) (by decide)) wk_c6 rfl 7 (by decide) q3 rfl rfl dX2_isGuessedByGap_17 ?_
      refine lv_iconst (v := 3) hx hb dX2_isGuessedByGap_20 (by decide) ?_
      refine lv_icmp_eq (tgt := 48) hx hb dX2_isGuessedByGap_21 (by decide) (fun g3 => ?_) (fun g3 => ?_)
      · have h := wk_p g3 h
        refine lv_iconst (v := 0) hx hb dX2_isGuessedByGap_48 (by decide) ?_
        exact RT _ _ _ _ _ _ (Or.inl rfl) h hP hS dX2_isGuessedByGap_49
      · have h := wk_n g3 h
        refine lv_iload_n hx hb dX2_isGuessedByGap_24 rfl (lv_at hl 1 rfl) ?_
        refine lv_aload_n hx hb dX2_isGuessedByGap_25 rfl (lv_at hl 0 rfl) ?_
        refine wk_get (ref := "WokenRooms$Room") (C := RX2) (T := TX2) (N := 15) (ci := 2) (v := .int (M 6 ch ri 13)) hx hb hts (fun _ h => List.mem_cons_of_mem _ (List.mem_append_right _ h)) hown hK hP (wk_l6 hL hc hi 6 (by decide) (by decide)) wk_c6 rfl 13 (by decide) q4 rfl rfl dX2_isGuessedByGap_26 ?_
        refine lv_aload_n hx hb dX2_isGuessedByGap_29 rfl (lv_at hl 0 rfl) ?_
        refine wk_get (ref := "WokenRooms$Room") (C := RX2) (T := TX2) (N := 15) (ci := 2) (v := .int (M 6 ch ri 14)) hx hb hts (fun _ h => List.mem_cons_of_mem _ (List.mem_append_right _ h)) hown hK hP (wk_l6 hL hc hi 6 (by decide) (by decide)) wk_c6 rfl 14 (by decide) q5 rfl rfl dX2_isGuessedByGap_30 ?_
        refine lv_iadd hx hb dX2_isGuessedByGap_33 ?_
        refine lv_aload_n hx hb dX2_isGuessedByGap_34 rfl (lv_at hl 0 rfl) ?_
        refine wk_get (ref := "WokenRooms$Room") (C := RX2) (T := TX2) (N := 15) (ci := 2) (v := .ref (B 7 ch ri)) hx hb hts (fun _ h => List.mem_cons_of_mem _ (List.mem_append_right _ h)) hown hK hP (wk_l6 hL hc hi 6 (by decide) (by decide)) wk_c6 rfl 0 (by decide) q6 rfl rfl dX2_isGuessedByGap_35 ?_
        refine lv_iconst (v := 1) hx hb dX2_isGuessedByGap_38 (by decide) ?_
        refine wk_iald (j := 1) hx hb hK hP (wk_l6 hL hc hi 7 (by decide) (by decide)) wk_c7 (by decide) (by decide) dX2_isGuessedByGap_39 ?_
        refine lv_isub hx hb dX2_isGuessedByGap_40 ?_
        refine lv_icmp_ne (tgt := 48) hx hb dX2_isGuessedByGap_41 (by decide) (fun g4 => ?_) (fun g4 => ?_)
        · have h := wk_n g4 h
          refine lv_iconst (v := 0) hx hb dX2_isGuessedByGap_48 (by decide) ?_
          exact RT _ _ _ _ _ _ (Or.inl rfl) h hP hS dX2_isGuessedByGap_49
        · have h := wk_p g4 h
          refine lv_iconst (v := 1) hx hb dX2_isGuessedByGap_44 (by decide) ?_
          refine lv_goto (tgt := 49) hx hb dX2_isGuessedByGap_45 (by decide) ?_
          exact RT _ _ _ _ _ _ (Or.inr rfl) h hP hS dX2_isGuessedByGap_49
set_option maxRecDepth 100000 in
set_option maxHeartbeats 4000000 in
theorem m_X2_isGuessedByGap (l : Launch) {D : va_G} {y : Nat → ClassId} {B : Nat → Nat → Nat → Nat} {Lk : Nat → Nat → Nat → Prop} (hI : wk_I B Lk) (hL : wk_L Lk) {ch : Nat} {ri : Nat} (hc : ch < 7) (hi : ri < 8) {v1 : Int32} {M : wk_T} {r0 : Int32} {MM : wk_T} (hf : f_X2_isGuessedByGap ch ri v1 M = some (r0, MM)) : wk_Mi l yX2_isGuessedByGap wsX2_isGuessedByGap 0 0 D y B Lk [.ref (B 6 ch ri), .int v1] M r0 MM :=
  wk_ofI (own := RX2) (bytes := cX2_isGuessedByGap) (maxL := 2) (ret := some .boolean) (by decide +kernel) rfl rfl (Or.inr rfl) (Nat.le_of_ble_eq_true rfl) hI hL (fun p e s m args below meth c ls CX RTi RTz hl hP hS => w_X2_isGuessedByGap_0 CX (RTz rfl) hc hi hf hl hP hS)
def f_X2_payForTick (ch : Nat) (ri : Nat) (M : wk_T) : Option (Unit × wk_T) := (if (M 6 ch ri 7) = 0 then wk_mu (wk_up M 8 ch ri 3 ((M 8 ch ri 3) + (M 7 ch ri 4))) (fun M2 => (some ((), M2))) else (if (M 6 ch ri 7) = 1 then (some ((), M)) else (if (M 6 ch ri 7) = 2 then wk_mu (wk_up M 8 ch ri 2 ((M 8 ch ri 2) + (M 7 ch ri 3))) (fun M5 => (some ((), M5))) else (if (M 6 ch ri 7) = 3 then wk_mu (wk_up M 8 ch ri 1 ((M 8 ch ri 1) + (M 7 ch ri 2))) (fun M7 => (some ((), M7))) else (some ((), M))))))
set_option maxRecDepth 20000 in
theorem q_X2_payForTick {s : State} {args : Array Value} (hts : ∀ w ∈ wsX2_payForTick, w.before args s = true) : (Cond.fieldLink RX2 34 "WokenRooms$Room" "state" "I").before args s = true ∧ (Cond.fieldLink RX2 15 "WokenRooms$Room" "paid" "[I").before args s = true ∧ (Cond.fieldLink RX2 9 "WokenRooms$Room" "costs" "[I").before args s = true := ⟨hts _ (List.mem_of_getElem? (i := 1) rfl), hts _ (List.mem_of_getElem? (i := 2) rfl), hts _ (List.mem_of_getElem? (i := 3) rfl)⟩
set_option maxRecDepth 100000 in
set_option maxHeartbeats 4000000 in
theorem w_X2_payForTick_0 {ch : Nat} {ri : Nat} (CX : wk_X p l e R s m args below meth c cells slots Q cX2_payForTick 1 RX2 wsX2_payForTick D y B Lk A 0 0) (RT : wk_Rv p l e R s m args below meth c cells slots Q cX2_payForTick D y B Lk A MM) (hc : ch < 7) (hi : ri < 8) {M : wk_T} {H : Heap} {locs : List Loc} {ls : Array Slot} (h : f_X2_payForTick ch ri M = some ((), MM)) (hl : lv_has ls 1 [(0, .ref (B 6 ch ri))]) (hP : wk_H D y B Lk M H) (hS : va_S A s.heap H locs) : W p l e R s m args below meth c H locs cells slots Q (F0 m 0 ls []) := by
  obtain ⟨⟨hx, hb, hml, hown, hts⟩, hK, hI, hL, hA, hfr, hlo, hcs⟩ := id CX
  obtain ⟨q1, q2, q3⟩ := q_X2_payForTick hts
  unfold f_X2_payForTick at h
  refine lv_aload_n hx hb dX2_payForTick_0 rfl (lv_at hl 0 rfl) ?_
  refine wk_get (ref := "WokenRooms$Room") (C := RX2) (T := TX2) (N := 15) (ci := 2) (v := .int (M 6 ch ri 7)) hx hb hts (fun _ h => List.mem_cons_of_mem _ (List.mem_append_right _ h)) hown hK hP (wk_l6 hL hc hi 6 (by decide) (by decide)) wk_c6 rfl 7 (by decide) q1 rfl rfl dX2_payForTick_1 ?_
  by_cases g1 : (M 6 ch ri 7) = 0
  · have h := wk_p g1 h
    refine lv_tableIn (off := 32) (tgt := 36) hx hb dX2_payForTick_4 (by rw [g1]; decide) (by rw [g1]; decide) (by rw [g1]; rfl) (by decide) ?_
    refine lv_aload_n hx hb dX2_payForTick_36 rfl (lv_at hl 0 rfl) ?_
    refine wk_get (ref := "WokenRooms$Room") (C := RX2) (T := TX2) (N := 15) (ci := 2) (v := .ref (B 8 ch ri)) hx hb hts (fun _ h => List.mem_cons_of_mem _ (List.mem_append_right _ h)) hown hK hP (wk_l6 hL hc hi 6 (by decide) (by decide)) wk_c6 rfl 1 (by decide) q2 rfl rfl dX2_payForTick_37 ?_
    refine lv_iconst (v := 3) hx hb dX2_payForTick_40 (by decide) ?_
    refine lv_dup2_11 hx hb dX2_payForTick_41 rfl rfl ?_
    refine wk_iald (j := 3) hx hb hK hP (wk_l6 hL hc hi 8 (by decide) (by decide)) wk_c8 (by decide) (by decide) dX2_payForTick_42 ?_
    refine lv_aload_n hx hb dX2_payForTick_43 rfl (lv_at hl 0 rfl) ?_
    refine wk_get (ref := "WokenRooms$Room") (C := RX2) (T := TX2) (N := 15) (ci := 2) (v := .ref (B 7 ch ri)) hx hb hts (fun _ h => List.mem_cons_of_mem _ (List.mem_append_right _ h)) hown hK hP (wk_l6 hL hc hi 6 (by decide) (by decide)) wk_c6 rfl 0 (by decide) q3 rfl rfl dX2_payForTick_44 ?_
    refine lv_iconst (v := 4) hx hb dX2_payForTick_47 (by decide) ?_
    refine wk_iald (j := 4) hx hb hK hP (wk_l6 hL hc hi 7 (by decide) (by decide)) wk_c7 (by decide) (by decide) dX2_payForTick_48 ?_
    refine lv_iadd hx hb dX2_payForTick_49 ?_
    obtain ⟨M2, eM2, h⟩ := wk_mu_e h
    refine wk_iast (j := 3) hx hb hK hP hI hS hA (wk_l6 hL hc hi 8 (by decide) (by decide)) wk_c8 (by decide) (by decide) (by rfl) dX2_payForTick_50 (fun H locs hP hS => ?_)
    rw [eM2] at hP
    refine lv_goto (tgt := 90) hx hb dX2_payForTick_51 (by decide) ?_
    exact RT _ _ _ _ _ h hP hS dX2_payForTick_90
  · have h := wk_n g1 h
    by_cases g3 : (M 6 ch ri 7) = 1
    · have h := wk_p g3 h
      refine lv_tableIn (off := 86) (tgt := 90) hx hb dX2_payForTick_4 (by rw [g3]; decide) (by rw [g3]; decide) (by rw [g3]; rfl) (by decide) ?_
      exact RT _ _ _ _ _ h hP hS dX2_payForTick_90
    · have h := wk_n g3 h
      by_cases g4 : (M 6 ch ri 7) = 2
      · have h := wk_p g4 h
        refine lv_tableIn (off := 50) (tgt := 54) hx hb dX2_payForTick_4 (by rw [g4]; decide) (by rw [g4]; decide) (by rw [g4]; rfl) (by decide) ?_
        refine lv_aload_n hx hb dX2_payForTick_54 rfl (lv_at hl 0 rfl) ?_
        refine wk_get (ref := "WokenRooms$Room") (C := RX2) (T := TX2) (N := 15) (ci := 2) (v := .ref (B 8 ch ri)) hx hb hts (fun _ h => List.mem_cons_of_mem _ (List.mem_append_right _ h)) hown hK hP (wk_l6 hL hc hi 6 (by decide) (by decide)) wk_c6 rfl 1 (by decide) q2 rfl rfl dX2_payForTick_55 ?_
        refine lv_iconst (v := 2) hx hb dX2_payForTick_58 (by decide) ?_
        refine lv_dup2_11 hx hb dX2_payForTick_59 rfl rfl ?_
        refine wk_iald (j := 2) hx hb hK hP (wk_l6 hL hc hi 8 (by decide) (by decide)) wk_c8 (by decide) (by decide) dX2_payForTick_60 ?_
        refine lv_aload_n hx hb dX2_payForTick_61 rfl (lv_at hl 0 rfl) ?_
        refine wk_get (ref := "WokenRooms$Room") (C := RX2) (T := TX2) (N := 15) (ci := 2) (v := .ref (B 7 ch ri)) hx hb hts (fun _ h => List.mem_cons_of_mem _ (List.mem_append_right _ h)) hown hK hP (wk_l6 hL hc hi 6 (by decide) (by decide)) wk_c6 rfl 0 (by decide) q3 rfl rfl dX2_payForTick_62 ?_
        refine lv_iconst (v := 3) hx hb dX2_payForTick_65 (by decide) ?_
        refine wk_iald (j := 3) hx hb hK hP (wk_l6 hL hc hi 7 (by decide) (by decide)) wk_c7 (by decide) (by decide) dX2_payForTick_66 ?_
        refine lv_iadd hx hb dX2_payForTick_67 ?_
        obtain ⟨M5, eM5, h⟩ := wk_mu_e h
        refine wk_iast (j := 2) hx hb hK hP hI hS hA (wk_l6 hL hc hi 8 (by decide) (by decide)) wk_c8 (by decide) (by decide) (by rfl) dX2_payForTick_68 (fun H locs hP hS => ?_)
        rw [eM5] at hP
        refine lv_goto (tgt := 90) hx hb dX2_payForTick_69 (by decide) ?_
        exact RT _ _ _ _ _ h hP hS dX2_payForTick_90
      · have h := wk_n g4 h
        by_cases g6 : (M 6 ch ri 7) = 3
        · have h := wk_p g6 h
          refine lv_tableIn (off := 68) (tgt := 72) hx hb dX2_payForTick_4 (by rw [g6]; decide) (by rw [g6]; decide) (by rw [g6]; rfl) (by decide) ?_
          refine lv_aload_n hx hb dX2_payForTick_72 rfl (lv_at hl 0 rfl) ?_
          refine wk_get (ref := "WokenRooms$Room") (C := RX2) (T := TX2) (N := 15) (ci := 2) (v := .ref (B 8 ch ri)) hx hb hts (fun _ h => List.mem_cons_of_mem _ (List.mem_append_right _ h)) hown hK hP (wk_l6 hL hc hi 6 (by decide) (by decide)) wk_c6 rfl 1 (by decide) q2 rfl rfl dX2_payForTick_73 ?_
          refine lv_iconst (v := 1) hx hb dX2_payForTick_76 (by decide) ?_
          refine lv_dup2_11 hx hb dX2_payForTick_77 rfl rfl ?_
          refine wk_iald (j := 1) hx hb hK hP (wk_l6 hL hc hi 8 (by decide) (by decide)) wk_c8 (by decide) (by decide) dX2_payForTick_78 ?_
          refine lv_aload_n hx hb dX2_payForTick_79 rfl (lv_at hl 0 rfl) ?_
          refine wk_get (ref := "WokenRooms$Room") (C := RX2) (T := TX2) (N := 15) (ci := 2) (v := .ref (B 7 ch ri)) hx hb hts (fun _ h => List.mem_cons_of_mem _ (List.mem_append_right _ h)) hown hK hP (wk_l6 hL hc hi 6 (by decide) (by decide)) wk_c6 rfl 0 (by decide) q3 rfl rfl dX2_payForTick_80 ?_
          refine lv_iconst (v := 2) hx hb dX2_payForTick_83 (by decide) ?_
          refine wk_iald (j := 2) hx hb hK hP (wk_l6 hL hc hi 7 (by decide) (by decide)) wk_c7 (by decide) (by decide) dX2_payForTick_84 ?_
          refine lv_iadd hx hb dX2_payForTick_85 ?_
          obtain ⟨M7, eM7, h⟩ := wk_mu_e h
          refine wk_iast (j := 1) hx hb hK hP hI hS hA (wk_l6 hL hc hi 8 (by decide) (by decide)) wk_c8 (by decide) (by decide) (by rfl) dX2_payForTick_86 (fun H locs hP hS => ?_)
          rw [eM7] at hP
          refine lv_goto (tgt := 90) hx hb dX2_payForTick_87 (by decide) ?_
          exact RT _ _ _ _ _ h hP hS dX2_payForTick_90
        · have h := wk_n g6 h
          refine lv_tableOut (tgt := 90) hx hb dX2_payForTick_4 (by have q0 := lv_neT g1 (a := 0) (by decide); have q1 := lv_neT g3 (a := 1) (by decide); have q2 := lv_neT g4 (a := 2) (by decide); have q3 := lv_neT g6 (a := 3) (by decide); omega) (by decide) ?_
          exact RT _ _ _ _ _ h hP hS dX2_payForTick_90
set_option maxRecDepth 100000 in
set_option maxHeartbeats 4000000 in
theorem m_X2_payForTick (l : Launch) {D : va_G} {y : Nat → ClassId} {B : Nat → Nat → Nat → Nat} {Lk : Nat → Nat → Nat → Prop} (hI : wk_I B Lk) (hL : wk_L Lk) {ch : Nat} {ri : Nat} (hc : ch < 7) (hi : ri < 8) {M : wk_T} {MM : wk_T} (hf : f_X2_payForTick ch ri M = some ((), MM)) : wk_Mv l yX2_payForTick wsX2_payForTick 0 0 D y B Lk [.ref (B 6 ch ri)] M MM :=
  wk_ofV (own := RX2) (bytes := cX2_payForTick) (maxL := 1) (by decide +kernel) rfl rfl (Nat.le_of_ble_eq_true rfl) hI hL (fun p e s m args below meth c ls CX RT hl hP hS => w_X2_payForTick_0 CX RT hc hi hf hl hP hS)
def f_X2_workOn (ch : Nat) (ri : Nat) (M : wk_T) : Option (Unit × wk_T) := wk_mu (wk_up M 6 ch ri 8 ((M 6 ch ri 8) - 1)) (fun M1 => (if 0 < (M1 6 ch ri 8) then (some ((), M1)) else wk_mu (wk_up M1 6 ch ri 7 2) (fun M3 => wk_mu (wk_up M3 6 ch ri 9 0) (fun M4 => (some ((), M4))))))
set_option maxRecDepth 20000 in
theorem q_X2_workOn {s : State} {args : Array Value} (hts : ∀ w ∈ wsX2_workOn, w.before args s = true) : (Cond.fieldLink RX2 37 "WokenRooms$Room" "left" "I").before args s = true ∧ (Cond.fieldLink RX2 34 "WokenRooms$Room" "state" "I").before args s = true ∧ (Cond.fieldLink RX2 40 "WokenRooms$Room" "idled" "I").before args s = true := ⟨hts _ (List.mem_of_getElem? (i := 1) rfl), hts _ (List.mem_of_getElem? (i := 2) rfl), hts _ (List.mem_of_getElem? (i := 3) rfl)⟩
set_option maxRecDepth 100000 in
set_option maxHeartbeats 4000000 in
theorem w_X2_workOn_0 {ch : Nat} {ri : Nat} (CX : wk_X p l e R s m args below meth c cells slots Q cX2_workOn 1 RX2 wsX2_workOn D y B Lk A 0 0) (RT : wk_Rv p l e R s m args below meth c cells slots Q cX2_workOn D y B Lk A MM) (hc : ch < 7) (hi : ri < 8) {M : wk_T} {H : Heap} {locs : List Loc} {ls : Array Slot} (h : f_X2_workOn ch ri M = some ((), MM)) (hl : lv_has ls 1 [(0, .ref (B 6 ch ri))]) (hP : wk_H D y B Lk M H) (hS : va_S A s.heap H locs) : W p l e R s m args below meth c H locs cells slots Q (F0 m 0 ls []) := by
  obtain ⟨⟨hx, hb, hml, hown, hts⟩, hK, hI, hL, hA, hfr, hlo, hcs⟩ := id CX
  obtain ⟨q1, q2, q3⟩ := q_X2_workOn hts
  unfold f_X2_workOn at h
  refine lv_aload_n hx hb dX2_workOn_0 rfl (lv_at hl 0 rfl) ?_
  refine lv_dup hx hb dX2_workOn_1 rfl ?_
  refine wk_get (ref := "WokenRooms$Room") (C := RX2) (T := TX2) (N := 15) (ci := 2) (v := .int (M 6 ch ri 8)) hx hb hts (fun _ h => List.mem_cons_of_mem _ (List.mem_append_right _ h)) hown hK hP (wk_l6 hL hc hi 6 (by decide) (by decide)) wk_c6 rfl 8 (by decide) q1 rfl rfl dX2_workOn_2 ?_
  refine lv_iconst (v := 1) hx hb dX2_workOn_5 (by decide) ?_
  refine lv_isub hx hb dX2_workOn_6 ?_
  obtain ⟨M1, eM1, h⟩ := wk_mu_e h
  refine wk_put (ref := "WokenRooms$Room") (C := RX2) (T := TX2) (N := 15) (ci := 2) hx hb hts (fun _ h => List.mem_cons_of_mem _ (List.mem_append_right _ h)) tyX2 tyX2_ok nmX2 hown hK hP hI hS hA (wk_l6 hL hc hi 6 (by decide) (by decide)) wk_c6 rfl 8 (by decide) q1 rfl rfl (by decide +kernel) (Nat.le_of_ble_eq_true rfl) (by rfl) dX2_workOn_7 (fun H locs hP hS => ?_)
  rw [eM1] at hP
  refine lv_aload_n hx hb dX2_workOn_10 rfl (lv_at hl 0 rfl) ?_
  refine wk_get (ref := "WokenRooms$Room") (C := RX2) (T := TX2) (N := 15) (ci := 2) (v := .int (M1 6 ch ri 8)) hx hb hts (fun _ h => List.mem_cons_of_mem _ (List.mem_append_right _ h)) hown hK hP (wk_l6 hL hc hi 6 (by decide) (by decide)) wk_c6 rfl 8 (by decide) q1 rfl rfl dX2_workOn_11 ?_
  refine lv_if_gt (tgt := 27) hx hb dX2_workOn_14 (by decide) (fun g2 => ?_) (fun g2 => ?_)
  · have h := wk_p g2 h
    exact RT _ _ _ _ _ h hP hS dX2_workOn_27
  · have h := wk_n g2 h
    refine lv_aload_n hx hb dX2_workOn_17 rfl (lv_at hl 0 rfl) ?_
    refine lv_iconst (v := 2) hx hb dX2_workOn_18 (by decide) ?_
    obtain ⟨M3, eM3, h⟩ := wk_mu_e h
    refine wk_put (ref := "WokenRooms$Room") (C := RX2) (T := TX2) (N := 15) (ci := 2) hx hb hts (fun _ h => List.mem_cons_of_mem _ (List.mem_append_right _ h)) tyX2 tyX2_ok nmX2 hown hK hP hI hS hA (wk_l6 hL hc hi 6 (by decide) (by decide)) wk_c6 rfl 7 (by decide) q2 rfl rfl (by decide +kernel) (Nat.le_of_ble_eq_true rfl) (by rfl) dX2_workOn_19 (fun H locs hP hS => ?_)
    rw [eM3] at hP
    refine lv_aload_n hx hb dX2_workOn_22 rfl (lv_at hl 0 rfl) ?_
    refine lv_iconst (v := 0) hx hb dX2_workOn_23 (by decide) ?_
    obtain ⟨M4, eM4, h⟩ := wk_mu_e h
    refine wk_put (ref := "WokenRooms$Room") (C := RX2) (T := TX2) (N := 15) (ci := 2) hx hb hts (fun _ h => List.mem_cons_of_mem _ (List.mem_append_right _ h)) tyX2 tyX2_ok nmX2 hown hK hP hI hS hA (wk_l6 hL hc hi 6 (by decide) (by decide)) wk_c6 rfl 9 (by decide) q3 rfl rfl (by decide +kernel) (Nat.le_of_ble_eq_true rfl) (by rfl) dX2_workOn_24 (fun H locs hP hS => ?_)
    rw [eM4] at hP
    exact RT _ _ _ _ _ h hP hS dX2_workOn_27
set_option maxRecDepth 100000 in
set_option maxHeartbeats 4000000 in
theorem m_X2_workOn (l : Launch) {D : va_G} {y : Nat → ClassId} {B : Nat → Nat → Nat → Nat} {Lk : Nat → Nat → Nat → Prop} (hI : wk_I B Lk) (hL : wk_L Lk) {ch : Nat} {ri : Nat} (hc : ch < 7) (hi : ri < 8) {M : wk_T} {MM : wk_T} (hf : f_X2_workOn ch ri M = some ((), MM)) : wk_Mv l yX2_workOn wsX2_workOn 0 0 D y B Lk [.ref (B 6 ch ri)] M MM :=
  wk_ofV (own := RX2) (bytes := cX2_workOn) (maxL := 1) (by decide +kernel) rfl rfl (Nat.le_of_ble_eq_true rfl) hI hL (fun p e s m args below meth c ls CX RT hl hP hS => w_X2_workOn_0 CX RT hc hi hf hl hP hS)
def f_X2_isTimedOut (ch : Nat) (ri : Nat) (M : wk_T) : Option (Int32 × wk_T) := (if (M 6 ch ri 5) ≤ 0 then (some (0, M)) else (if (M 6 ch ri 9) < (M 6 ch ri 5) then (some (0, M)) else (some (1, M))))
set_option maxRecDepth 20000 in
theorem q_X2_isTimedOut {s : State} {args : Array Value} (hts : ∀ w ∈ wsX2_isTimedOut, w.before args s = true) : (Cond.fieldLink RX2 28 "WokenRooms$Room" "timeOut" "I").before args s = true ∧ (Cond.fieldLink RX2 40 "WokenRooms$Room" "idled" "I").before args s = true := ⟨hts _ (List.mem_of_getElem? (i := 1) rfl), hts _ (List.mem_of_getElem? (i := 2) rfl)⟩
set_option maxRecDepth 100000 in
set_option maxHeartbeats 4000000 in
theorem w_X2_isTimedOut_0 {ch : Nat} {ri : Nat} {r0 : Int32} (CX : wk_X p l e R s m args below meth c cells slots Q cX2_isTimedOut 1 RX2 wsX2_isTimedOut D y B Lk A 0 0) (RT : wk_Rz p l e R s m args below meth c cells slots Q cX2_isTimedOut D y B Lk A r0 MM) (hc : ch < 7) (hi : ri < 8) {M : wk_T} {H : Heap} {locs : List Loc} {ls : Array Slot} (h : f_X2_isTimedOut ch ri M = some (r0, MM)) (hl : lv_has ls 1 [(0, .ref (B 6 ch ri))]) (hP : wk_H D y B Lk M H) (hS : va_S A s.heap H locs) : W p l e R s m args below meth c H locs cells slots Q (F0 m 0 ls []) := by
  obtain ⟨⟨hx, hb, hml, hown, hts⟩, hK, hI, hL, hA, hfr, hlo, hcs⟩ := id CX
  obtain ⟨q1, q2⟩ := q_X2_isTimedOut hts
  unfold f_X2_isTimedOut at h
  refine lv_aload_n hx hb dX2_isTimedOut_0 rfl (lv_at hl 0 rfl) ?_
  refine wk_get (ref := "WokenRooms$Room") (C := RX2) (T := TX2) (N := 15) (ci := 2) (v := .int (M 6 ch ri 5)) hx hb hts (fun _ h => List.mem_cons_of_mem _ (List.mem_append_right _ h)) hown hK hP (wk_l6 hL hc hi 6 (by decide) (by decide)) wk_c6 rfl 5 (by decide) q1 rfl rfl dX2_isTimedOut_1 ?_
  refine lv_if_le (tgt := 22) hx hb dX2_isTimedOut_4 (by decide) (fun g1 => ?_) (fun g1 => ?_)
  · have h := wk_p g1 h
    refine lv_iconst (v := 0) hx hb dX2_isTimedOut_22 (by decide) ?_
    exact RT _ _ _ _ _ _ (Or.inl rfl) h hP hS dX2_isTimedOut_23
  · have h := wk_n g1 h
    refine lv_aload_n hx hb dX2_isTimedOut_7 rfl (lv_at hl 0 rfl) ?_
    refine wk_get (ref := "WokenRooms$Room") (C := RX2) (T := TX2) (N := 15) (ci := 2) (v := .int (M 6 ch ri 9)) hx hb hts (fun _ h => List.mem_cons_of_mem _ (List.mem_append_right _ h)) hown hK hP (wk_l6 hL hc hi 6 (by decide) (by decide)) wk_c6 rfl 9 (by decide) q2 rfl rfl dX2_isTimedOut_8 ?_
    refine lv_aload_n hx hb dX2_isTimedOut_11 rfl (lv_at hl 0 rfl) ?_
    refine wk_get (ref := "WokenRooms$Room") (C := RX2) (T := TX2) (N := 15) (ci := 2) (v := .int (M 6 ch ri 5)) hx hb hts (fun _ h => List.mem_cons_of_mem _ (List.mem_append_right _ h)) hown hK hP (wk_l6 hL hc hi 6 (by decide) (by decide)) wk_c6 rfl 5 (by decide) q1 rfl rfl dX2_isTimedOut_12 ?_
    refine lv_icmp_lt (tgt := 22) hx hb dX2_isTimedOut_15 (by decide) (fun g2 => ?_) (fun g2 => ?_)
    · have h := wk_p g2 h
      refine lv_iconst (v := 0) hx hb dX2_isTimedOut_22 (by decide) ?_
      exact RT _ _ _ _ _ _ (Or.inl rfl) h hP hS dX2_isTimedOut_23
    · have h := wk_n g2 h
      refine lv_iconst (v := 1) hx hb dX2_isTimedOut_18 (by decide) ?_
      refine lv_goto (tgt := 23) hx hb dX2_isTimedOut_19 (by decide) ?_
      exact RT _ _ _ _ _ _ (Or.inr rfl) h hP hS dX2_isTimedOut_23
set_option maxRecDepth 100000 in
set_option maxHeartbeats 4000000 in
theorem m_X2_isTimedOut (l : Launch) {D : va_G} {y : Nat → ClassId} {B : Nat → Nat → Nat → Nat} {Lk : Nat → Nat → Nat → Prop} (hI : wk_I B Lk) (hL : wk_L Lk) {ch : Nat} {ri : Nat} (hc : ch < 7) (hi : ri < 8) {M : wk_T} {r0 : Int32} {MM : wk_T} (hf : f_X2_isTimedOut ch ri M = some (r0, MM)) : wk_Mi l yX2_isTimedOut wsX2_isTimedOut 0 0 D y B Lk [.ref (B 6 ch ri)] M r0 MM :=
  wk_ofI (own := RX2) (bytes := cX2_isTimedOut) (maxL := 1) (ret := some .boolean) (by decide +kernel) rfl rfl (Or.inr rfl) (Nat.le_of_ble_eq_true rfl) hI hL (fun p e s m args below meth c ls CX RTi RTz hl hP hS => w_X2_isTimedOut_0 CX (RTz rfl) hc hi hf hl hP hS)
end WP11
