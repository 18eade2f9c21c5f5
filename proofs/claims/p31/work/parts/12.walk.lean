/-! walks by program: X0_copyFrom, X0_hasRoom, X0_hasUse, X0_roomsIn, X0_paidInAll, X0_begunInAll, X0_lateInAll, X0_tell -/
section WP12
variable {p : Program} {l : Launch} {e : Env} {R : Room} {s : State} {m : MethodId} {args : Array Value} {below : List Frame} {meth : Method} {c : Code} {cells slots : Nat} {Q : State → Prop}
variable {D : va_G} {y : Nat → ClassId} {B : Nat → Nat → Nat → Nat} {Lk : Nat → Nat → Nat → Prop} {A : Nat → Prop} {MM : wk_T}
def f_X0_copyFrom_2 (ch : Nat) (ch2 : Nat) : Nat → Int32 → wk_T → Option (Unit × wk_T)
  | 0, _, _ => none
  | n + 1, v2, M => (if (M 0 ch2 0 1) ≤ v2 then wk_mu (wk_up M 0 ch 0 1 (M 0 ch2 0 1)) (fun M2 => wk_mu (wk_ur M2 2 ch 0 (va_cpy (M2 2 ch2 0) (M2 2 ch 0) 0 0 2)) (fun M3 => wk_mu (wk_ur M3 3 ch 0 (va_cpy (M3 3 ch2 0) (M3 3 ch 0) 0 0 12)) (fun M4 => wk_mu (wk_ur M4 4 ch 0 (va_cpy (M4 4 ch2 0) (M4 4 ch 0) 0 0 12)) (fun M5 => wk_mu (wk_ur M5 5 ch 0 (va_cpy (M5 5 ch2 0) (M5 5 ch 0) 0 0 12)) (fun M6 => wk_mu (wk_up M6 0 ch 0 6 (M6 0 ch2 0 6)) (fun M7 => wk_mu (wk_up M7 0 ch 0 7 (M7 0 ch2 0 7)) (fun M8 => (some ((), M8))))))))) else wk_gd (¬ (v2 < 0 ∨ 8 ≤ v2.toNatClampNeg)) (wk_gd (¬ (v2 < 0 ∨ 8 ≤ v2.toNatClampNeg)) (wk_cl (f_X2_copyFrom ch v2.toNatClampNeg ch2 v2.toNatClampNeg M) (fun _ M12 => wk_lt (v2 + 1) (fun x13 => (f_X0_copyFrom_2 ch ch2 n x13 M12))))))
def f_X0_copyFrom (ch : Nat) (ch2 : Nat) (M : wk_T) : Option (Unit × wk_T) := (f_X0_copyFrom_2 ch ch2 wk_fuel 0 M)
set_option maxRecDepth 20000 in
theorem q_X0_copyFrom {s : State} {args : Array Value} (hts : ∀ w ∈ wsX0_copyFrom, w.before args s = true) : (Cond.fieldLink RX0 31 "WokenRooms$Chip" "roomCount" "I").before args s = true ∧ (Cond.fieldLink RX0 11 "WokenRooms$Chip" "rooms" "[LWokenRooms$Room;").before args s = true ∧ (Cond.fieldLink RX0 17 "WokenRooms$Chip" "limits" "[I").before args s = true ∧ (Cond.methodLink RX0 39 arraycopyName).before args s = true ∧ (Cond.native arraycopyName).before args s = true ∧ (Cond.static arraycopyName).before args s = true ∧ (Cond.initialized "java/lang/System").before args s = true ∧ (Cond.fieldLink RX0 21 "WokenRooms$Chip" "useRooms" "[I").before args s = true ∧ (Cond.fieldLink RX0 24 "WokenRooms$Chip" "useTimes" "[I").before args s = true ∧ (Cond.fieldLink RX0 27 "WokenRooms$Chip" "useLengths" "[I").before args s = true ∧ (Cond.fieldLink RX0 45 "WokenRooms$Chip" "useCount" "I").before args s = true ∧ (Cond.fieldLink RX0 48 "WokenRooms$Chip" "time" "I").before args s = true := ⟨hts _ (List.mem_of_getElem? (i := 1) rfl), hts _ (List.mem_of_getElem? (i := 2) rfl), hts _ (List.mem_of_getElem? (i := 3) rfl), hts _ (List.mem_of_getElem? (i := 4) rfl), hts _ (List.mem_of_getElem? (i := 5) rfl), hts _ (List.mem_of_getElem? (i := 6) rfl), hts _ (List.mem_of_getElem? (i := 7) rfl), hts _ (List.mem_of_getElem? (i := 8) rfl), hts _ (List.mem_of_getElem? (i := 9) rfl), hts _ (List.mem_of_getElem? (i := 10) rfl), hts _ (List.mem_of_getElem? (i := 11) rfl), hts _ (List.mem_of_getElem? (i := 12) rfl)⟩
set_option maxRecDepth 100000 in
set_option maxHeartbeats 4000000 in
theorem w_X0_copyFrom_2 {ch : Nat} {ch2 : Nat} (CX : wk_X p l e R s m args below meth c cells slots Q cX0_copyFrom 3 RX0 wsX0_copyFrom D y B Lk A 2 61) (RT : wk_Rv p l e R s m args below meth c cells slots Q cX0_copyFrom D y B Lk A MM) (hc : ch < 7) (hc2 : ch2 < 7) : ∀ (n : Nat) (v2 : Int32) (M : wk_T) (H : Heap) (locs : List Loc) (ls : Array Slot), f_X0_copyFrom_2 ch ch2 n v2 M = some ((), MM) → lv_has ls 3 [(0, .ref (B 0 ch 0)), (1, .ref (B 0 ch2 0)), (2, .int v2)] → wk_H D y B Lk M H → va_S A s.heap H locs → W p l e R s m args below meth c H locs cells slots Q (F0 m 2 ls []) := by
  obtain ⟨⟨hx, hb, hml, hown, hts⟩, hK, hI, hL, hA, hfr, hlo, hcs⟩ := id CX
  obtain ⟨q1, q2, q3, q4, q5, q6, q7, q8, q9, q10, q11, q12⟩ := q_X0_copyFrom hts
  intro n
  induction n with
  | zero =>
    intro v2 M H locs ls h
    exact absurd h (by rw [f_X0_copyFrom_2]; exact fun z => nomatch z)
  | succ n ih =>
    intro v2 M H locs ls h hl hP hS
    rw [f_X0_copyFrom_2] at h
    refine lv_iload_n hx hb dX0_copyFrom_2 rfl (lv_at hl 2 rfl) ?_
    refine lv_aload_n hx hb dX0_copyFrom_3 rfl (lv_at hl 1 rfl) ?_
    refine wk_get (ref := "WokenRooms$Chip") (C := RX0) (T := TX0) (N := 8) (ci := 0) (v := .int (M 0 ch2 0 1)) hx hb hts (fun _ h => List.mem_cons_of_mem _ (List.mem_append_left _ (List.mem_append_right _ h))) hown hK hP (wk_l0 hL hc2 0 (by decide)) wk_c0 rfl 1 (by decide) q1 rfl rfl dX0_copyFrom_4 ?_
    refine lv_icmp_ge (tgt := 31) hx hb dX0_copyFrom_7 (by decide) (fun g1 => ?_) (fun g1 => ?_)
    · have h := wk_p g1 h
      refine lv_aload_n hx hb dX0_copyFrom_31 rfl (lv_at hl 0 rfl) ?_
      refine lv_aload_n hx hb dX0_copyFrom_32 rfl (lv_at hl 1 rfl) ?_
      refine wk_get (ref := "WokenRooms$Chip") (C := RX0) (T := TX0) (N := 8) (ci := 0) (v := .int (M 0 ch2 0 1)) hx hb hts (fun _ h => List.mem_cons_of_mem _ (List.mem_append_left _ (List.mem_append_right _ h))) hown hK hP (wk_l0 hL hc2 0 (by decide)) wk_c0 rfl 1 (by decide) q1 rfl rfl dX0_copyFrom_33 ?_
      obtain ⟨M2, eM2, h⟩ := wk_mu_e h
      refine wk_put (ref := "WokenRooms$Chip") (C := RX0) (T := TX0) (N := 8) (ci := 0) hx hb hts (fun _ h => List.mem_cons_of_mem _ (List.mem_append_left _ (List.mem_append_right _ h))) tyX0 tyX0_ok nmX0 hown hK hP hI hS hA (wk_l0 hL hc 0 (by decide)) wk_c0 rfl 1 (by decide) q1 rfl rfl (by decide +kernel) (Nat.le_of_ble_eq_true rfl) (by rfl) dX0_copyFrom_36 (fun H locs hP hS => ?_)
      rw [eM2] at hP
      refine lv_aload_n hx hb dX0_copyFrom_39 rfl (lv_at hl 1 rfl) ?_
      refine wk_get (ref := "WokenRooms$Chip") (C := RX0) (T := TX0) (N := 8) (ci := 0) (v := .ref (B 2 ch2 0)) hx hb hts (fun _ h => List.mem_cons_of_mem _ (List.mem_append_left _ (List.mem_append_right _ h))) hown hK hP (wk_l0 hL hc2 0 (by decide)) wk_c0 rfl 2 (by decide) q3 rfl rfl dX0_copyFrom_40 ?_
      refine lv_iconst (v := 0) hx hb dX0_copyFrom_43 (by decide) ?_
      refine lv_aload_n hx hb dX0_copyFrom_44 rfl (lv_at hl 0 rfl) ?_
      refine wk_get (ref := "WokenRooms$Chip") (C := RX0) (T := TX0) (N := 8) (ci := 0) (v := .ref (B 2 ch 0)) hx hb hts (fun _ h => List.mem_cons_of_mem _ (List.mem_append_left _ (List.mem_append_right _ h))) hown hK hP (wk_l0 hL hc 0 (by decide)) wk_c0 rfl 2 (by decide) q3 rfl rfl dX0_copyFrom_45 ?_
      refine lv_iconst (v := 0) hx hb dX0_copyFrom_48 (by decide) ?_
      refine lv_iconst (v := 2) hx hb dX0_copyFrom_49 (by decide) ?_
      obtain ⟨M3, eM3, h⟩ := wk_mu_e h
      refine wk_copy (spn := 0) (dpn := 0) (nn := 2) hx hb (hml.trans hl.1.symm) hown q4 q5 q6 q7 hK hP hI hS hA (wk_l0 hL hc2 2 (by decide)) (wk_l0 hL hc 2 (by decide)) wk_c2 wk_c2 (by decide) (by decide) (by decide) (by decide) (by decide) (by decide) (by decide) (by decide) (by rfl) (Nat.le_trans (by decide) hfr) (Nat.le_trans (by decide) hlo) dX0_copyFrom_50 (fun H locs hP hS => ?_)
      rw [eM3] at hP
      refine lv_aload_n hx hb dX0_copyFrom_53 rfl (lv_at hl 1 rfl) ?_
      refine wk_get (ref := "WokenRooms$Chip") (C := RX0) (T := TX0) (N := 8) (ci := 0) (v := .ref (B 3 ch2 0)) hx hb hts (fun _ h => List.mem_cons_of_mem _ (List.mem_append_left _ (List.mem_append_right _ h))) hown hK hP (wk_l0 hL hc2 0 (by decide)) wk_c0 rfl 3 (by decide) q8 rfl rfl dX0_copyFrom_54 ?_
      refine lv_iconst (v := 0) hx hb dX0_copyFrom_57 (by decide) ?_
      refine lv_aload_n hx hb dX0_copyFrom_58 rfl (lv_at hl 0 rfl) ?_
      refine wk_get (ref := "WokenRooms$Chip") (C := RX0) (T := TX0) (N := 8) (ci := 0) (v := .ref (B 3 ch 0)) hx hb hts (fun _ h => List.mem_cons_of_mem _ (List.mem_append_left _ (List.mem_append_right _ h))) hown hK hP (wk_l0 hL hc 0 (by decide)) wk_c0 rfl 3 (by decide) q8 rfl rfl dX0_copyFrom_59 ?_
      refine lv_iconst (v := 0) hx hb dX0_copyFrom_62 (by decide) ?_
      refine lv_bipush (v := 12) hx hb dX0_copyFrom_63 (by decide) ?_
      obtain ⟨M4, eM4, h⟩ := wk_mu_e h
      refine wk_copy (spn := 0) (dpn := 0) (nn := 12) hx hb (hml.trans hl.1.symm) hown q4 q5 q6 q7 hK hP hI hS hA (wk_l0 hL hc2 3 (by decide)) (wk_l0 hL hc 3 (by decide)) wk_c3 wk_c3 (by decide) (by decide) (by decide) (by decide) (by decide) (by decide) (by decide) (by decide) (by rfl) (Nat.le_trans (by decide) hfr) (Nat.le_trans (by decide) hlo) dX0_copyFrom_65 (fun H locs hP hS => ?_)
      rw [eM4] at hP
      refine lv_aload_n hx hb dX0_copyFrom_68 rfl (lv_at hl 1 rfl) ?_
      refine wk_get (ref := "WokenRooms$Chip") (C := RX0) (T := TX0) (N := 8) (ci := 0) (v := .ref (B 4 ch2 0)) hx hb hts (fun _ h => List.mem_cons_of_mem _ (List.mem_append_left _ (List.mem_append_right _ h))) hown hK hP (wk_l0 hL hc2 0 (by decide)) wk_c0 rfl 4 (by decide) q9 rfl rfl dX0_copyFrom_69 ?_
      refine lv_iconst (v := 0) hx hb dX0_copyFrom_72 (by decide) ?_
      refine lv_aload_n hx hb dX0_copyFrom_73 rfl (lv_at hl 0 rfl) ?_
      refine wk_get (ref := "WokenRooms$Chip") (C := RX0) (T := TX0) (N := 8) (ci := 0) (v := .ref (B 4 ch 0)) hx hb hts (fun _ h => List.mem_cons_of_mem _ (List.mem_append_left _ (List.mem_append_right _ h))) hown hK hP (wk_l0 hL hc 0 (by decide)) wk_c0 rfl 4 (by decide) q9 rfl rfl dX0_copyFrom_74 ?_
      refine lv_iconst (v := 0) hx hb dX0_copyFrom_77 (by decide) ?_
      refine lv_bipush (v := 12) hx hb dX0_copyFrom_78 (by decide) ?_
      obtain ⟨M5, eM5, h⟩ := wk_mu_e h
      refine wk_copy (spn := 0) (dpn := 0) (nn := 12) hx hb (hml.trans hl.1.symm) hown q4 q5 q6 q7 hK hP hI hS hA (wk_l0 hL hc2 4 (by decide)) (wk_l0 hL hc 4 (by decide)) wk_c4 wk_c4 (by decide) (by decide) (by decide) (by decide) (by decide) (by decide) (by decide) (by decide) (by rfl) (Nat.le_trans (by decide) hfr) (Nat.le_trans (by decide) hlo) dX0_copyFrom_80 (fun H locs hP hS => ?_)
      rw [eM5] at hP
      refine lv_aload_n hx hb dX0_copyFrom_83 rfl (lv_at hl 1 rfl) ?_
      refine wk_get (ref := "WokenRooms$Chip") (C := RX0) (T := TX0) (N := 8) (ci := 0) (v := .ref (B 5 ch2 0)) hx hb hts (fun _ h => List.mem_cons_of_mem _ (List.mem_append_left _ (List.mem_append_right _ h))) hown hK hP (wk_l0 hL hc2 0 (by decide)) wk_c0 rfl 5 (by decide) q10 rfl rfl dX0_copyFrom_84 ?_
      refine lv_iconst (v := 0) hx hb dX0_copyFrom_87 (by decide) ?_
      refine lv_aload_n hx hb dX0_copyFrom_88 rfl (lv_at hl 0 rfl) ?_
      refine wk_get (ref := "WokenRooms$Chip") (C := RX0) (T := TX0) (N := 8) (ci := 0) (v := .ref (B 5 ch 0)) hx hb hts (fun _ h => List.mem_cons_of_mem _ (List.mem_append_left _ (List.mem_append_right _ h))) hown hK hP (wk_l0 hL hc 0 (by decide)) wk_c0 rfl 5 (by decide) q10 rfl rfl dX0_copyFrom_89 ?_
      refine lv_iconst (v := 0) hx hb dX0_copyFrom_92 (by decide) ?_
      refine lv_bipush (v := 12) hx hb dX0_copyFrom_93 (by decide) ?_
      obtain ⟨M6, eM6, h⟩ := wk_mu_e h
      refine wk_copy (spn := 0) (dpn := 0) (nn := 12) hx hb (hml.trans hl.1.symm) hown q4 q5 q6 q7 hK hP hI hS hA (wk_l0 hL hc2 5 (by decide)) (wk_l0 hL hc 5 (by decide)) wk_c5 wk_c5 (by decide) (by decide) (by decide) (by decide) (by decide) (by decide) (by decide) (by decide) (by rfl) (Nat.le_trans (by decide) hfr) (Nat.le_trans (by decide) hlo) dX0_copyFrom_95 (fun H locs hP hS => ?_)
      rw [eM6] at hP
      refine lv_aload_n hx hb dX0_copyFrom_98 rfl (lv_at hl 0 rfl) ?_
      refine lv_aload_n hx hb dX0_copyFrom_99 rfl (lv_at hl 1 rfl) ?_
      refine wk_get (ref := "WokenRooms$Chip") (C := RX0) (T := TX0) (N := 8) (ci := 0) (v := .int (M6 0 ch2 0 6)) hx hb hts (fun _ h => List.mem_cons_of_mem _ (List.mem_append_left _ (List.mem_append_right _ h))) hown hK hP (wk_l0 hL hc2 0 (by decide)) wk_c0 rfl 6 (by decide) q11 rfl rfl dX0_copyFrom_100 ?_
      obtain ⟨M7, eM7, h⟩ := wk_mu_e h
      refine wk_put (ref := "WokenRooms$Chip") (C := RX0) (T := TX0) (N := 8) (ci := 0) hx hb hts (fun _ h => List.mem_cons_of_mem _ (List.mem_append_left _ (List.mem_append_right _ h))) tyX0 tyX0_ok nmX0 hown hK hP hI hS hA (wk_l0 hL hc 0 (by decide)) wk_c0 rfl 6 (by decide) q11 rfl rfl (by decide +kernel) (Nat.le_of_ble_eq_true rfl) (by rfl) dX0_copyFrom_103 (fun H locs hP hS => ?_)
      rw [eM7] at hP
      refine lv_aload_n hx hb dX0_copyFrom_106 rfl (lv_at hl 0 rfl) ?_
      refine lv_aload_n hx hb dX0_copyFrom_107 rfl (lv_at hl 1 rfl) ?_
      refine wk_get (ref := "WokenRooms$Chip") (C := RX0) (T := TX0) (N := 8) (ci := 0) (v := .int (M7 0 ch2 0 7)) hx hb hts (fun _ h => List.mem_cons_of_mem _ (List.mem_append_left _ (List.mem_append_right _ h))) hown hK hP (wk_l0 hL hc2 0 (by decide)) wk_c0 rfl 7 (by decide) q12 rfl rfl dX0_copyFrom_108 ?_
      obtain ⟨M8, eM8, h⟩ := wk_mu_e h
      refine wk_put (ref := "WokenRooms$Chip") (C := RX0) (T := TX0) (N := 8) (ci := 0) hx hb hts (fun _ h => List.mem_cons_of_mem _ (List.mem_append_left _ (List.mem_append_right _ h))) tyX0 tyX0_ok nmX0 hown hK hP hI hS hA (wk_l0 hL hc 0 (by decide)) wk_c0 rfl 7 (by decide) q12 rfl rfl (by decide +kernel) (Nat.le_of_ble_eq_true rfl) (by rfl) dX0_copyFrom_111 (fun H locs hP hS => ?_)
      rw [eM8] at hP
      exact RT _ _ _ _ _ h hP hS dX0_copyFrom_114
    · have h := wk_n g1 h
      refine lv_aload_n hx hb dX0_copyFrom_10 rfl (lv_at hl 0 rfl) ?_
      refine wk_get (ref := "WokenRooms$Chip") (C := RX0) (T := TX0) (N := 8) (ci := 0) (v := .ref (B 1 ch 0)) hx hb hts (fun _ h => List.mem_cons_of_mem _ (List.mem_append_left _ (List.mem_append_right _ h))) hown hK hP (wk_l0 hL hc 0 (by decide)) wk_c0 rfl 0 (by decide) q2 rfl rfl dX0_copyFrom_11 ?_
      refine lv_iload_n hx hb dX0_copyFrom_14 rfl (lv_at hl 2 rfl) ?_
      obtain ⟨g9, h⟩ := wk_gd_e h
      refine wk_aaldR (j := v2.toNatClampNeg) hx hb hK hP (wk_l0 hL hc 1 (by decide)) g9 rfl dX0_copyFrom_15 ?_
      refine lv_aload_n hx hb dX0_copyFrom_16 rfl (lv_at hl 1 rfl) ?_
      refine wk_get (ref := "WokenRooms$Chip") (C := RX0) (T := TX0) (N := 8) (ci := 0) (v := .ref (B 1 ch2 0)) hx hb hts (fun _ h => List.mem_cons_of_mem _ (List.mem_append_left _ (List.mem_append_right _ h))) hown hK hP (wk_l0 hL hc2 0 (by decide)) wk_c0 rfl 0 (by decide) q2 rfl rfl dX0_copyFrom_17 ?_
      refine lv_iload_n hx hb dX0_copyFrom_20 rfl (lv_at hl 2 rfl) ?_
      obtain ⟨g10, h⟩ := wk_gd_e h
      refine wk_aaldR (j := v2.toNatClampNeg) hx hb hK hP (wk_l0 hL hc2 1 (by decide)) g10 rfl dX0_copyFrom_21 ?_
      obtain ⟨r11, M12, er11, h⟩ := wk_cl_e h
      refine wk_cVv (As := [.ref (B 6 ch2 v2.toNatClampNeg)]) (rest := []) ⟨hx, hb, hml, hown, hts⟩ (m_X2_copyFrom l hI hL hc (wk_ix g9) hc2 (wk_ix g10) er11) (cwV 1 hts gX0_copyFrom_X2_copyFrom rfl rfl rfl (by decide +kernel) ⟨Nat.le_trans (by decide) hfr, Nat.le_trans (by decide) hlo⟩) hK hP hS hA (wk_l6 hL hc (wk_ix g9) 6 (by decide) (by decide)) wk_c6 rfl rfl hl.1 (lv_room (Nat.le_of_ble_eq_true rfl)) hcs dX0_copyFrom_22 (fun H locs hP hS => ?_)
      obtain ⟨x13, ex13, h⟩ := wk_lt_e h
      refine lv_iinc (v := x13) (lv' := [(2, .int x13), (0, .ref (B 0 ch 0)), (1, .ref (B 0 ch2 0))]) hx hb dX0_copyFrom_25 hl (k := 2) rfl (by rw [← ex13]; rfl) (by decide) rfl (fun ls hl => ?_)
      refine lv_goto (tgt := 2) hx hb dX0_copyFrom_28 (by decide) ?_
      exact ih _ _ _ _ _ h (lv_sub hl [1, 2, 0] rfl) hP hS
set_option maxRecDepth 100000 in
set_option maxHeartbeats 4000000 in
theorem w_X0_copyFrom_0 {ch : Nat} {ch2 : Nat} (CX : wk_X p l e R s m args below meth c cells slots Q cX0_copyFrom 3 RX0 wsX0_copyFrom D y B Lk A 2 61) (RT : wk_Rv p l e R s m args below meth c cells slots Q cX0_copyFrom D y B Lk A MM) (hc : ch < 7) (hc2 : ch2 < 7) {M : wk_T} {H : Heap} {locs : List Loc} {ls : Array Slot} (h : f_X0_copyFrom ch ch2 M = some ((), MM)) (hl : lv_has ls 3 [(0, .ref (B 0 ch 0)), (1, .ref (B 0 ch2 0))]) (hP : wk_H D y B Lk M H) (hS : va_S A s.heap H locs) : W p l e R s m args below meth c H locs cells slots Q (F0 m 0 ls []) := by
  obtain ⟨⟨hx, hb, hml, hown, hts⟩, hK, hI, hL, hA, hfr, hlo, hcs⟩ := id CX
  obtain ⟨q1, q2, q3, q4, q5, q6, q7, q8, q9, q10, q11, q12⟩ := q_X0_copyFrom hts
  unfold f_X0_copyFrom at h
  refine lv_iconst (v := 0) hx hb dX0_copyFrom_0 (by decide) ?_
  refine lv_istore_n (lv' := [(2, .int 0), (0, .ref (B 0 ch 0)), (1, .ref (B 0 ch2 0))]) hx hb dX0_copyFrom_1 rfl hl (by decide) rfl (fun ls hl => ?_)
  exact w_X0_copyFrom_2 CX RT hc hc2 wk_fuel _ _ _ _ _ h (lv_sub hl [1, 2, 0] rfl) hP hS
set_option maxRecDepth 100000 in
set_option maxHeartbeats 4000000 in
theorem m_X0_copyFrom (l : Launch) {D : va_G} {y : Nat → ClassId} {B : Nat → Nat → Nat → Nat} {Lk : Nat → Nat → Nat → Prop} (hI : wk_I B Lk) (hL : wk_L Lk) {ch : Nat} {ch2 : Nat} (hc : ch < 7) (hc2 : ch2 < 7) {M : wk_T} {MM : wk_T} (hf : f_X0_copyFrom ch ch2 M = some ((), MM)) : wk_Mv l yX0_copyFrom wsX0_copyFrom 2 61 D y B Lk [.ref (B 0 ch 0), .ref (B 0 ch2 0)] M MM :=
  wk_ofV (own := RX0) (bytes := cX0_copyFrom) (maxL := 3) (by decide +kernel) rfl rfl (Nat.le_of_ble_eq_true rfl) hI hL (fun p e s m args below meth c ls CX RT hl hP hS => w_X0_copyFrom_0 CX RT hc hc2 hf hl hP hS)
def f_X0_hasRoom (ch : Nat) (v1 : Int32) (M : wk_T) : Option (Int32 × wk_T) := (if v1 < 0 then (some (0, M)) else (if (M 0 ch 0 1) ≤ v1 then (some (0, M)) else (some (1, M))))
set_option maxRecDepth 20000 in
theorem q_X0_hasRoom {s : State} {args : Array Value} (hts : ∀ w ∈ wsX0_hasRoom, w.before args s = true) : (Cond.fieldLink RX0 31 "WokenRooms$Chip" "roomCount" "I").before args s = true := hts _ (List.mem_of_getElem? (i := 1) rfl)
set_option maxRecDepth 100000 in
set_option maxHeartbeats 4000000 in
theorem w_X0_hasRoom_0 {ch : Nat} {r0 : Int32} (CX : wk_X p l e R s m args below meth c cells slots Q cX0_hasRoom 2 RX0 wsX0_hasRoom D y B Lk A 0 0) (RT : wk_Rz p l e R s m args below meth c cells slots Q cX0_hasRoom D y B Lk A r0 MM) (hc : ch < 7) {v1 : Int32} {M : wk_T} {H : Heap} {locs : List Loc} {ls : Array Slot} (h : f_X0_hasRoom ch v1 M = some (r0, MM)) (hl : lv_has ls 2 [(0, .ref (B 0 ch 0)), (1, .int v1)]) (hP : wk_H D y B Lk M H) (hS : va_S A s.heap H locs) : W p l e R s m args below meth c H locs cells slots Q (F0 m 0 ls []) := by
  obtain ⟨⟨hx, hb, hml, hown, hts⟩, hK, hI, hL, hA, hfr, hlo, hcs⟩ := id CX
  have q1 := q_X0_hasRoom hts
  unfold f_X0_hasRoom at h
  refine lv_iload_n hx hb dX0_hasRoom_0 rfl (lv_at hl 1 rfl) ?_
  refine lv_if_lt (tgt := 16) hx hb dX0_hasRoom_1 (by decide) (fun g1 => ?_) (fun g1 => ?_)
  · have h := wk_p g1 h
    refine lv_iconst (v := 0) hx hb dX0_hasRoom_16 (by decide) ?_
    exact RT _ _ _ _ _ _ (Or.inl rfl) h hP hS dX0_hasRoom_17
  · have h := wk_n g1 h
    refine lv_iload_n hx hb dX0_hasRoom_4 rfl (lv_at hl 1 rfl) ?_
    refine lv_aload_n hx hb dX0_hasRoom_5 rfl (lv_at hl 0 rfl) ?_
    refine wk_get (ref := "WokenRooms$Chip") (C := RX0) (T := TX0) (N := 8) (ci := 0) (v := .int (M 0 ch 0 1)) hx hb hts (fun _ h => List.mem_cons_of_mem _ (List.mem_append_right _ h)) hown hK hP (wk_l0 hL hc 0 (by decide)) wk_c0 rfl 1 (by decide) q1 rfl rfl dX0_hasRoom_6 ?_
    refine lv_icmp_ge (tgt := 16) hx hb dX0_hasRoom_9 (by decide) (fun g2 => ?_) (fun g2 => ?_)
    · have h := wk_p g2 h
      refine lv_iconst (v := 0) hx hb dX0_hasRoom_16 (by decide) ?_
      exact RT _ _ _ _ _ _ (Or.inl rfl) h hP hS dX0_hasRoom_17
    · have h := wk_n g2 h
      refine lv_iconst (v := 1) hx hb dX0_hasRoom_12 (by decide) ?_
      refine lv_goto (tgt := 17) hx hb dX0_hasRoom_13 (by decide) ?_
      exact RT _ _ _ _ _ _ (Or.inr rfl) h hP hS dX0_hasRoom_17
set_option maxRecDepth 100000 in
set_option maxHeartbeats 4000000 in
theorem m_X0_hasRoom (l : Launch) {D : va_G} {y : Nat → ClassId} {B : Nat → Nat → Nat → Nat} {Lk : Nat → Nat → Nat → Prop} (hI : wk_I B Lk) (hL : wk_L Lk) {ch : Nat} (hc : ch < 7) {v1 : Int32} {M : wk_T} {r0 : Int32} {MM : wk_T} (hf : f_X0_hasRoom ch v1 M = some (r0, MM)) : wk_Mi l yX0_hasRoom wsX0_hasRoom 0 0 D y B Lk [.ref (B 0 ch 0), .int v1] M r0 MM :=
  wk_ofI (own := RX0) (bytes := cX0_hasRoom) (maxL := 2) (ret := some .boolean) (by decide +kernel) rfl rfl (Or.inr rfl) (Nat.le_of_ble_eq_true rfl) hI hL (fun p e s m args below meth c ls CX RTi RTz hl hP hS => w_X0_hasRoom_0 CX (RTz rfl) hc hf hl hP hS)
def f_X0_hasUse (ch : Nat) (v1 : Int32) (M : wk_T) : Option (Int32 × wk_T) := (if v1 < 0 then (some (0, M)) else (if (M 0 ch 0 6) ≤ v1 then (some (0, M)) else (some (1, M))))
set_option maxRecDepth 20000 in
theorem q_X0_hasUse {s : State} {args : Array Value} (hts : ∀ w ∈ wsX0_hasUse, w.before args s = true) : (Cond.fieldLink RX0 45 "WokenRooms$Chip" "useCount" "I").before args s = true := hts _ (List.mem_of_getElem? (i := 1) rfl)
set_option maxRecDepth 100000 in
set_option maxHeartbeats 4000000 in
theorem w_X0_hasUse_0 {ch : Nat} {r0 : Int32} (CX : wk_X p l e R s m args below meth c cells slots Q cX0_hasUse 2 RX0 wsX0_hasUse D y B Lk A 0 0) (RT : wk_Rz p l e R s m args below meth c cells slots Q cX0_hasUse D y B Lk A r0 MM) (hc : ch < 7) {v1 : Int32} {M : wk_T} {H : Heap} {locs : List Loc} {ls : Array Slot} (h : f_X0_hasUse ch v1 M = some (r0, MM)) (hl : lv_has ls 2 [(0, .ref (B 0 ch 0)), (1, .int v1)]) (hP : wk_H D y B Lk M H) (hS : va_S A s.heap H locs) : W p l e R s m args below meth c H locs cells slots Q (F0 m 0 ls []) := by
  obtain ⟨⟨hx, hb, hml, hown, hts⟩, hK, hI, hL, hA, hfr, hlo, hcs⟩ := id CX
  have q1 := q_X0_hasUse hts
  unfold f_X0_hasUse at h
  refine lv_iload_n hx hb dX0_hasUse_0 rfl (lv_at hl 1 rfl) ?_
  refine lv_if_lt (tgt := 16) hx hb dX0_hasUse_1 (by decide) (fun g1 => ?_) (fun g1 => ?_)
  · have h := wk_p g1 h
    refine lv_iconst (v := 0) hx hb dX0_hasUse_16 (by decide) ?_
    exact RT _ _ _ _ _ _ (Or.inl rfl) h hP hS dX0_hasUse_17
  · have h := wk_n g1 h
    refine lv_iload_n hx hb dX0_hasUse_4 rfl (lv_at hl 1 rfl) ?_
    refine lv_aload_n hx hb dX0_hasUse_5 rfl (lv_at hl 0 rfl) ?_
    refine wk_get (ref := "WokenRooms$Chip") (C := RX0) (T := TX0) (N := 8) (ci := 0) (v := .int (M 0 ch 0 6)) hx hb hts (fun _ h => List.mem_cons_of_mem _ (List.mem_append_right _ h)) hown hK hP (wk_l0 hL hc 0 (by decide)) wk_c0 rfl 6 (by decide) q1 rfl rfl dX0_hasUse_6 ?_
    refine lv_icmp_ge (tgt := 16) hx hb dX0_hasUse_9 (by decide) (fun g2 => ?_) (fun g2 => ?_)
    · have h := wk_p g2 h
      refine lv_iconst (v := 0) hx hb dX0_hasUse_16 (by decide) ?_
      exact RT _ _ _ _ _ _ (Or.inl rfl) h hP hS dX0_hasUse_17
    · have h := wk_n g2 h
      refine lv_iconst (v := 1) hx hb dX0_hasUse_12 (by decide) ?_
      refine lv_goto (tgt := 17) hx hb dX0_hasUse_13 (by decide) ?_
      exact RT _ _ _ _ _ _ (Or.inr rfl) h hP hS dX0_hasUse_17
set_option maxRecDepth 100000 in
set_option maxHeartbeats 4000000 in
theorem m_X0_hasUse (l : Launch) {D : va_G} {y : Nat → ClassId} {B : Nat → Nat → Nat → Nat} {Lk : Nat → Nat → Nat → Prop} (hI : wk_I B Lk) (hL : wk_L Lk) {ch : Nat} (hc : ch < 7) {v1 : Int32} {M : wk_T} {r0 : Int32} {MM : wk_T} (hf : f_X0_hasUse ch v1 M = some (r0, MM)) : wk_Mi l yX0_hasUse wsX0_hasUse 0 0 D y B Lk [.ref (B 0 ch 0), .int v1] M r0 MM :=
  wk_ofI (own := RX0) (bytes := cX0_hasUse) (maxL := 2) (ret := some .boolean) (by decide +kernel) rfl rfl (Or.inr rfl) (Nat.le_of_ble_eq_true rfl) hI hL (fun p e s m args below meth c ls CX RTi RTz hl hP hS => w_X0_hasUse_0 CX (RTz rfl) hc hf hl hP hS)
def f_X0_roomsIn_28 (ch : Nat) (k4 : Int32 → Int32 → Int32 → wk_T → Option (Int32 × wk_T)) (v1 : Int32) (v2 : Int32) (v3 : Int32) (M : wk_T) : Option (Int32 × wk_T) := wk_lt (v3 + 1) (fun x1 => (k4 v1 v2 x1 M))
def f_X0_roomsIn_4 (ch : Nat) : Nat → Int32 → Int32 → Int32 → wk_T → Option (Int32 × wk_T)
  | 0, _, _, _, _ => none
  | n + 1, v1, v2, v3, M => (if (M 0 ch 0 1) ≤ v3 then (some (v2, M)) else wk_gd (¬ (v3 < 0 ∨ 8 ≤ v3.toNatClampNeg)) ((if (M 6 ch v3.toNatClampNeg 7) = v1 then wk_lt (v2 + 1) (fun x4 => (f_X0_roomsIn_28 ch (f_X0_roomsIn_4 ch n) v1 x4 v3 M)) else (f_X0_roomsIn_28 ch (f_X0_roomsIn_4 ch n) v1 v2 v3 M))))
def f_X0_roomsIn (ch : Nat) (v1 : Int32) (M : wk_T) : Option (Int32 × wk_T) := (f_X0_roomsIn_4 ch wk_fuel v1 0 0 M)
set_option maxRecDepth 20000 in
theorem q_X0_roomsIn {s : State} {args : Array Value} (hts : ∀ w ∈ wsX0_roomsIn, w.before args s = true) : (Cond.fieldLink RX0 31 "WokenRooms$Chip" "roomCount" "I").before args s = true ∧ (Cond.fieldLink RX0 11 "WokenRooms$Chip" "rooms" "[LWokenRooms$Room;").before args s = true ∧ (Cond.fieldLink RX0 65 "WokenRooms$Room" "state" "I").before args s = true := ⟨hts _ (List.mem_of_getElem? (i := 1) rfl), hts _ (List.mem_of_getElem? (i := 2) rfl), hts _ (List.mem_of_getElem? (i := 3) rfl)⟩
set_option maxRecDepth 100000 in
set_option maxHeartbeats 4000000 in
theorem w_X0_roomsIn_28 {ch : Nat} {r0 : Int32} (CX : wk_X p l e R s m args below meth c cells slots Q cX0_roomsIn 4 RX0 wsX0_roomsIn D y B Lk A 0 0) (RT : wk_Ri p l e R s m args below meth c cells slots Q cX0_roomsIn D y B Lk A r0 MM) (hc : ch < 7) {k4 : Int32 → Int32 → Int32 → wk_T → Option (Int32 × wk_T)} (hk4 : ∀ (v1 : Int32) (v2 : Int32) (v3 : Int32) (M : wk_T) (H : Heap) (locs : List Loc) (ls : Array Slot), k4 v1 v2 v3 M = some (r0, MM) → lv_has ls 4 [(0, .ref (B 0 ch 0)), (1, .int v1), (2, .int v2), (3, .int v3)] → wk_H D y B Lk M H → va_S A s.heap H locs → W p l e R s m args below meth c H locs cells slots Q (F0 m 4 ls [])) {v1 : Int32} {v2 : Int32} {v3 : Int32} {M : wk_T} {H : Heap} {locs : List Loc} {ls : Array Slot} (h : f_X0_roomsIn_28 ch k4 v1 v2 v3 M = some (r0, MM)) (hl : lv_has ls 4 [(0, .ref (B 0 ch 0)), (1, .int v1), (2, .int v2), (3, .int v3)]) (hP : wk_H D y B Lk M H) (hS : va_S A s.heap H locs) : W p l e R s m args below meth c H locs cells slots Q (F0 m 28 ls []) := by
  obtain ⟨⟨hx, hb, hml, hown, hts⟩, hK, hI, hL, hA, hfr, hlo, hcs⟩ := id CX
  obtain ⟨q1, q2, q3⟩ := q_X0_roomsIn hts
  unfold f_X0_roomsIn_28 at h
  obtain ⟨x1, ex1, h⟩ := wk_lt_e h
  refine lv_iinc (v := x1) (lv' := [(3, .int x1), (0, .ref (B 0 ch 0)), (1, .int v1), (2, .int v2)]) hx hb dX0_roomsIn_28 hl (k := 3) rfl (by rw [← ex1]; rfl) (by decide) rfl (fun ls hl => ?_)
  refine lv_goto (tgt := 4) hx hb dX0_roomsIn_31 (by decide) ?_
  exact hk4 _ _ _ _ _ _ _ h (lv_sub hl [1, 2, 3, 0] rfl) hP hS
set_option maxRecDepth 100000 in
set_option maxHeartbeats 4000000 in
theorem w_X0_roomsIn_4 {ch : Nat} {r0 : Int32} (CX : wk_X p l e R s m args below meth c cells slots Q cX0_roomsIn 4 RX0 wsX0_roomsIn D y B Lk A 0 0) (RT : wk_Ri p l e R s m args below meth c cells slots Q cX0_roomsIn D y B Lk A r0 MM) (hc : ch < 7) : ∀ (n : Nat) (v1 : Int32) (v2 : Int32) (v3 : Int32) (M : wk_T) (H : Heap) (locs : List Loc) (ls : Array Slot), f_X0_roomsIn_4 ch n v1 v2 v3 M = some (r0, MM) → lv_has ls 4 [(0, .ref (B 0 ch 0)), (1, .int v1), (2, .int v2), (3, .int v3)] → wk_H D y B Lk M H → va_S A s.heap H locs → W p l e R s m args below meth c H locs cells slots Q (F0 m 4 ls []) := by
  obtain ⟨⟨hx, hb, hml, hown, hts⟩, hK, hI, hL, hA, hfr, hlo, hcs⟩ := id CX
  obtain ⟨q1, q2, q3⟩ := q_X0_roomsIn hts
  intro n
  induction n with
  | zero =>
    intro v1 v2 v3 M H locs ls h
    exact absurd h (by rw [f_X0_roomsIn_4]; exact fun z => nomatch z)
  | succ n ih =>
    intro v1 v2 v3 M H locs ls h hl hP hS
    rw [f_X0_roomsIn_4] at h
    refine lv_iload_n hx hb dX0_roomsIn_4 rfl (lv_at hl 3 rfl) ?_
    refine lv_aload_n hx hb dX0_roomsIn_5 rfl (lv_at hl 0 rfl) ?_
    refine wk_get (ref := "WokenRooms$Chip") (C := RX0) (T := TX0) (N := 8) (ci := 0) (v := .int (M 0 ch 0 1)) hx hb hts (fun _ h => List.mem_cons_of_mem _ (List.mem_append_left _ (List.mem_append_right _ h))) hown hK hP (wk_l0 hL hc 0 (by decide)) wk_c0 rfl 1 (by decide) q1 rfl rfl dX0_roomsIn_6 ?_
    refine lv_icmp_ge (tgt := 34) hx hb dX0_roomsIn_9 (by decide) (fun g1 => ?_) (fun g1 => ?_)
    · have h := wk_p g1 h
      refine lv_iload_n hx hb dX0_roomsIn_34 rfl (lv_at hl 2 rfl) ?_
      exact RT _ _ _ _ _ _ h hP hS dX0_roomsIn_35
    · have h := wk_n g1 h
      refine lv_aload_n hx hb dX0_roomsIn_12 rfl (lv_at hl 0 rfl) ?_
      refine wk_get (ref := "WokenRooms$Chip") (C := RX0) (T := TX0) (N := 8) (ci := 0) (v := .ref (B 1 ch 0)) hx hb hts (fun _ h => List.mem_cons_of_mem _ (List.mem_append_left _ (List.mem_append_right _ h))) hown hK hP (wk_l0 hL hc 0 (by decide)) wk_c0 rfl 0 (by decide) q2 rfl rfl dX0_roomsIn_13 ?_
      refine lv_iload_n hx hb dX0_roomsIn_16 rfl (lv_at hl 3 rfl) ?_
      obtain ⟨g2, h⟩ := wk_gd_e h
      refine wk_aaldR (j := v3.toNatClampNeg) hx hb hK hP (wk_l0 hL hc 1 (by decide)) g2 rfl dX0_roomsIn_17 ?_
      refine wk_get (ref := "WokenRooms$Room") (C := RX2) (T := TX2) (N := 15) (ci := 2) (v := .int (M 6 ch v3.toNatClampNeg 7)) hx hb hts (fun _ h => List.mem_cons_of_mem _ (List.mem_append_right _ h)) hown hK hP (wk_l6 hL hc (wk_ix g2) 6 (by decide) (by decide)) wk_c6 rfl 7 (by decide) q3 rfl rfl dX0_roomsIn_18 ?_
      refine lv_iload_n hx hb dX0_roomsIn_21 rfl (lv_at hl 1 rfl) ?_
      refine lv_icmp_ne (tgt := 28) hx hb dX0_roomsIn_22 (by decide) (fun g3 => ?_) (fun g3 => ?_)
      · have h := wk_n g3 h
        exact w_X0_roomsIn_28 CX RT hc ih h (lv_sub hl [0, 1, 2, 3] rfl) hP hS
      · have h := wk_p g3 h
        obtain ⟨x4, ex4, h⟩ := wk_lt_e h
        refine lv_iinc (v := x4) (lv' := [(2, .int x4), (0, .ref (B 0 ch 0)), (1, .int v1), (3, .int v3)]) hx hb dX0_roomsIn_25 hl (k := 2) rfl (by rw [← ex4]; rfl) (by decide) rfl (fun ls hl => ?_)
        exact w_X0_roomsIn_28 CX RT hc ih h (lv_sub hl [1, 2, 0, 3] rfl) hP hS
set_option maxRecDepth 100000 in
set_option maxHeartbeats 4000000 in
theorem w_X0_roomsIn_0 {ch : Nat} {r0 : Int32} (CX : wk_X p l e R s m args below meth c cells slots Q cX0_roomsIn 4 RX0 wsX0_roomsIn D y B Lk A 0 0) (RT : wk_Ri p l e R s m args below meth c cells slots Q cX0_roomsIn D y B Lk A r0 MM) (hc : ch < 7) {v1 : Int32} {M : wk_T} {H : Heap} {locs : List Loc} {ls : Array Slot} (h : f_X0_roomsIn ch v1 M = some (r0, MM)) (hl : lv_has ls 4 [(0, .ref (B 0 ch 0)), (1, .int v1)]) (hP : wk_H D y B Lk M H) (hS : va_S A s.heap H locs) : W p l e R s m args below meth c H locs cells slots Q (F0 m 0 ls []) := by
  obtain ⟨⟨hx, hb, hml, hown, hts⟩, hK, hI, hL, hA, hfr, hlo, hcs⟩ := id CX
  obtain ⟨q1, q2, q3⟩ := q_X0_roomsIn hts
  unfold f_X0_roomsIn at h
  refine lv_iconst (v := 0) hx hb dX0_roomsIn_0 (by decide) ?_
  refine lv_istore_n (lv' := [(2, .int 0), (0, .ref (B 0 ch 0)), (1, .int v1)]) hx hb dX0_roomsIn_1 rfl hl (by decide) rfl (fun ls hl => ?_)
  refine lv_iconst (v := 0) hx hb dX0_roomsIn_2 (by decide) ?_
  refine lv_istore_n (lv' := [(3, .int 0), (2, .int 0), (0, .ref (B 0 ch 0)), (1, .int v1)]) hx hb dX0_roomsIn_3 rfl hl (by decide) rfl (fun ls hl => ?_)
  exact w_X0_roomsIn_4 CX RT hc wk_fuel _ _ _ _ _ _ _ h (lv_sub hl [2, 3, 1, 0] rfl) hP hS
set_option maxRecDepth 100000 in
set_option maxHeartbeats 4000000 in
theorem m_X0_roomsIn (l : Launch) {D : va_G} {y : Nat → ClassId} {B : Nat → Nat → Nat → Nat} {Lk : Nat → Nat → Nat → Prop} (hI : wk_I B Lk) (hL : wk_L Lk) {ch : Nat} (hc : ch < 7) {v1 : Int32} {M : wk_T} {r0 : Int32} {MM : wk_T} (hf : f_X0_roomsIn ch v1 M = some (r0, MM)) : wk_Mi l yX0_roomsIn wsX0_roomsIn 0 0 D y B Lk [.ref (B 0 ch 0), .int v1] M r0 MM :=
  wk_ofI (own := RX0) (bytes := cX0_roomsIn) (maxL := 4) (ret := some .int) (by decide +kernel) rfl rfl (Or.inl rfl) (Nat.le_of_ble_eq_true rfl) hI hL (fun p e s m args below meth c ls CX RTi RTz hl hP hS => w_X0_roomsIn_0 CX (RTi rfl) hc hf hl hP hS)
def f_X0_paidInAll_4 (ch : Nat) : Nat → Int32 → Int32 → wk_T → Option (Int32 × wk_T)
  | 0, _, _, _ => none
  | n + 1, v1, v2, M => (if (M 0 ch 0 1) ≤ v2 then (some (v1, M)) else wk_gd (¬ (v2 < 0 ∨ 8 ≤ v2.toNatClampNeg)) (wk_cl (f_X2_paidInAll ch v2.toNatClampNeg M) (fun r3 M4 => wk_lt ((v1 + r3)) (fun x5 => wk_lt (v2 + 1) (fun x6 => (f_X0_paidInAll_4 ch n x5 x6 M4))))))
def f_X0_paidInAll (ch : Nat) (M : wk_T) : Option (Int32 × wk_T) := (f_X0_paidInAll_4 ch wk_fuel 0 0 M)
set_option maxRecDepth 20000 in
theorem q_X0_paidInAll {s : State} {args : Array Value} (hts : ∀ w ∈ wsX0_paidInAll, w.before args s = true) : (Cond.fieldLink RX0 31 "WokenRooms$Chip" "roomCount" "I").before args s = true ∧ (Cond.fieldLink RX0 11 "WokenRooms$Chip" "rooms" "[LWokenRooms$Room;").before args s = true := ⟨hts _ (List.mem_of_getElem? (i := 1) rfl), hts _ (List.mem_of_getElem? (i := 2) rfl)⟩
set_option maxRecDepth 100000 in
set_option maxHeartbeats 4000000 in
theorem w_X0_paidInAll_4 {ch : Nat} {r0 : Int32} (CX : wk_X p l e R s m args below meth c cells slots Q cX0_paidInAll 3 RX0 wsX0_paidInAll D y B Lk A 1 20) (RT : wk_Ri p l e R s m args below meth c cells slots Q cX0_paidInAll D y B Lk A r0 MM) (hc : ch < 7) : ∀ (n : Nat) (v1 : Int32) (v2 : Int32) (M : wk_T) (H : Heap) (locs : List Loc) (ls : Array Slot), f_X0_paidInAll_4 ch n v1 v2 M = some (r0, MM) → lv_has ls 3 [(0, .ref (B 0 ch 0)), (1, .int v1), (2, .int v2)] → wk_H D y B Lk M H → va_S A s.heap H locs → W p l e R s m args below meth c H locs cells slots Q (F0 m 4 ls []) := by
  obtain ⟨⟨hx, hb, hml, hown, hts⟩, hK, hI, hL, hA, hfr, hlo, hcs⟩ := id CX
  obtain ⟨q1, q2⟩ := q_X0_paidInAll hts
  intro n
  induction n with
  | zero =>
    intro v1 v2 M H locs ls h
    exact absurd h (by rw [f_X0_paidInAll_4]; exact fun z => nomatch z)
  | succ n ih =>
    intro v1 v2 M H locs ls h hl hP hS
    rw [f_X0_paidInAll_4] at h
    refine lv_iload_n hx hb dX0_paidInAll_4 rfl (lv_at hl 2 rfl) ?_
    refine lv_aload_n hx hb dX0_paidInAll_5 rfl (lv_at hl 0 rfl) ?_
    refine wk_get (ref := "WokenRooms$Chip") (C := RX0) (T := TX0) (N := 8) (ci := 0) (v := .int (M 0 ch 0 1)) hx hb hts (fun _ h => List.mem_cons_of_mem _ (List.mem_append_left _ (List.mem_append_right _ h))) hown hK hP (wk_l0 hL hc 0 (by decide)) wk_c0 rfl 1 (by decide) q1 rfl rfl dX0_paidInAll_6 ?_
    refine lv_icmp_ge (tgt := 30) hx hb dX0_paidInAll_9 (by decide) (fun g1 => ?_) (fun g1 => ?_)
    · have h := wk_p g1 h
      refine lv_iload_n hx hb dX0_paidInAll_30 rfl (lv_at hl 1 rfl) ?_
      exact RT _ _ _ _ _ _ h hP hS dX0_paidInAll_31
    · have h := wk_n g1 h
      refine lv_iload_n hx hb dX0_paidInAll_12 rfl (lv_at hl 1 rfl) ?_
      refine lv_aload_n hx hb dX0_paidInAll_13 rfl (lv_at hl 0 rfl) ?_
      refine wk_get (ref := "WokenRooms$Chip") (C := RX0) (T := TX0) (N := 8) (ci := 0) (v := .ref (B 1 ch 0)) hx hb hts (fun _ h => List.mem_cons_of_mem _ (List.mem_append_left _ (List.mem_append_right _ h))) hown hK hP (wk_l0 hL hc 0 (by decide)) wk_c0 rfl 0 (by decide) q2 rfl rfl dX0_paidInAll_14 ?_
      refine lv_iload_n hx hb dX0_paidInAll_17 rfl (lv_at hl 2 rfl) ?_
      obtain ⟨g2, h⟩ := wk_gd_e h
      refine wk_aaldR (j := v2.toNatClampNeg) hx hb hK hP (wk_l0 hL hc 1 (by decide)) g2 rfl dX0_paidInAll_18 ?_
      obtain ⟨r3, M4, er3, h⟩ := wk_cl_e h
      refine wk_cVi (As := []) (rest := [.int v1]) ⟨hx, hb, hml, hown, hts⟩ (m_X2_paidInAll l hI hL hc (wk_ix g2) er3) (cwV 0 hts gX0_paidInAll_X2_paidInAll rfl rfl rfl (by decide +kernel) ⟨Nat.le_trans (by decide) hfr, Nat.le_trans (by decide) hlo⟩) hK hP hS hA (wk_l6 hL hc (wk_ix g2) 6 (by decide) (by decide)) wk_c6 rfl rfl hl.1 (lv_room (Nat.le_of_ble_eq_true rfl)) hcs dX0_paidInAll_19 (fun H locs hP hS => ?_)
      refine lv_iadd hx hb dX0_paidInAll_22 ?_
      obtain ⟨x5, ex5, h⟩ := wk_lt_e h
      refine wk_topi ex5 ?_
      refine lv_istore_n (lv' := [(1, .int x5), (0, .ref (B 0 ch 0)), (2, .int v2)]) hx hb dX0_paidInAll_23 rfl hl (by decide) rfl (fun ls hl => ?_)
      obtain ⟨x6, ex6, h⟩ := wk_lt_e h
      refine lv_iinc (v := x6) (lv' := [(2, .int x6), (1, .int x5), (0, .ref (B 0 ch 0))]) hx hb dX0_paidInAll_24 hl (k := 2) rfl (by rw [← ex6]; rfl) (by decide) rfl (fun ls hl => ?_)
      refine lv_goto (tgt := 4) hx hb dX0_paidInAll_27 (by decide) ?_
      exact ih _ _ _ _ _ _ h (lv_sub hl [2, 1, 0] rfl) hP hS
set_option maxRecDepth 100000 in
set_option maxHeartbeats 4000000 in
theorem w_X0_paidInAll_0 {ch : Nat} {r0 : Int32} (CX : wk_X p l e R s m args below meth c cells slots Q cX0_paidInAll 3 RX0 wsX0_paidInAll D y B Lk A 1 20) (RT : wk_Ri p l e R s m args below meth c cells slots Q cX0_paidInAll D y B Lk A r0 MM) (hc : ch < 7) {M : wk_T} {H : Heap} {locs : List Loc} {ls : Array Slot} (h : f_X0_paidInAll ch M = some (r0, MM)) (hl : lv_has ls 3 [(0, .ref (B 0 ch 0))]) (hP : wk_H D y B Lk M H) (hS : va_S A s.heap H locs) : W p l e R s m args below meth c H locs cells slots Q (F0 m 0 ls []) := by
  obtain ⟨⟨hx, hb, hml, hown, hts⟩, hK, hI, hL, hA, hfr, hlo, hcs⟩ := id CX
  obtain ⟨q1, q2⟩ := q_X0_paidInAll hts
  unfold f_X0_paidInAll at h
  refine lv_iconst (v := 0) hx hb dX0_paidInAll_0 (by decide) ?_
  refine lv_istore_n (lv' := [(1, .int 0), (0, .ref (B 0 ch 0))]) hx hb dX0_paidInAll_1 rfl hl (by decide) rfl (fun ls hl => ?_)
  refine lv_iconst (v := 0) hx hb dX0_paidInAll_2 (by decide) ?_
  refine lv_istore_n (lv' := [(2, .int 0), (1, .int 0), (0, .ref (B 0 ch 0))]) hx hb dX0_paidInAll_3 rfl hl (by decide) rfl (fun ls hl => ?_)
  exact w_X0_paidInAll_4 CX RT hc wk_fuel _ _ _ _ _ _ h (lv_sub hl [2, 1, 0] rfl) hP hS
set_option maxRecDepth 100000 in
set_option maxHeartbeats 4000000 in
theorem m_X0_paidInAll (l : Launch) {D : va_G} {y : Nat → ClassId} {B : Nat → Nat → Nat → Nat} {Lk : Nat → Nat → Nat → Prop} (hI : wk_I B Lk) (hL : wk_L Lk) {ch : Nat} (hc : ch < 7) {M : wk_T} {r0 : Int32} {MM : wk_T} (hf : f_X0_paidInAll ch M = some (r0, MM)) : wk_Mi l yX0_paidInAll wsX0_paidInAll 1 20 D y B Lk [.ref (B 0 ch 0)] M r0 MM :=
  wk_ofI (own := RX0) (bytes := cX0_paidInAll) (maxL := 3) (ret := some .int) (by decide +kernel) rfl rfl (Or.inl rfl) (Nat.le_of_ble_eq_true rfl) hI hL (fun p e s m args below meth c ls CX RTi RTz hl hP hS => w_X0_paidInAll_0 CX (RTi rfl) hc hf hl hP hS)
def f_X0_begunInAll_4 (ch : Nat) : Nat → Int32 → Int32 → wk_T → Option (Int32 × wk_T)
  | 0, _, _, _ => none
  | n + 1, v1, v2, M => (if (M 0 ch 0 1) ≤ v2 then (some (v1, M)) else wk_gd (¬ (v2 < 0 ∨ 8 ≤ v2.toNatClampNeg)) (wk_lt ((v1 + (M 6 ch v2.toNatClampNeg 10))) (fun x3 => wk_lt (v2 + 1) (fun x4 => (f_X0_begunInAll_4 ch n x3 x4 M)))))
def f_X0_begunInAll (ch : Nat) (M : wk_T) : Option (Int32 × wk_T) := (f_X0_begunInAll_4 ch wk_fuel 0 0 M)
set_option maxRecDepth 20000 in
theorem q_X0_begunInAll {s : State} {args : Array Value} (hts : ∀ w ∈ wsX0_begunInAll, w.before args s = true) : (Cond.fieldLink RX0 31 "WokenRooms$Chip" "roomCount" "I").before args s = true ∧ (Cond.fieldLink RX0 11 "WokenRooms$Chip" "rooms" "[LWokenRooms$Room;").before args s = true ∧ (Cond.fieldLink RX0 72 "WokenRooms$Room" "begun" "I").before args s = true := ⟨hts _ (List.mem_of_getElem? (i := 1) rfl), hts _ (List.mem_of_getElem? (i := 2) rfl), hts _ (List.mem_of_getElem? (i := 3) rfl)⟩
set_option maxRecDepth 100000 in
set_option maxHeartbeats 4000000 in
theorem w_X0_begunInAll_4 {ch : Nat} {r0 : Int32} (CX : wk_X p l e R s m args below meth c cells slots Q cX0_begunInAll 3 RX0 wsX0_begunInAll D y B Lk A 0 0) (RT : wk_Ri p l e R s m args below meth c cells slots Q cX0_begunInAll D y B Lk A r0 MM) (hc : ch < 7) : ∀ (n : Nat) (v1 : Int32) (v2 : Int32) (M : wk_T) (H : Heap) (locs : List Loc) (ls : Array Slot), f_X0_begunInAll_4 ch n v1 v2 M = some (r0, MM) → lv_has ls 3 [(0, .ref (B 0 ch 0)), (1, .int v1), (2, .int v2)] → wk_H D y B Lk M H → va_S A s.heap H locs → W p l e R s m args below meth c H locs cells slots Q (F0 m 4 ls []) := by
  obtain ⟨⟨hx, hb, hml, hown, hts⟩, hK, hI, hL, hA, hfr, hlo, hcs⟩ := id CX
  obtain ⟨q1, q2, q3⟩ := q_X0_begunInAll hts
  intro n
  induction n with
  | zero =>
    intro v1 v2 M H locs ls h
    exact absurd h (by rw [f_X0_begunInAll_4]; exact fun z => nomatch z)
  | succ n ih =>
    intro v1 v2 M H locs ls h hl hP hS
    rw [f_X0_begunInAll_4] at h
    refine lv_iload_n hx hb dX0_begunInAll_4 rfl (lv_at hl 2 rfl) ?_
    refine lv_aload_n hx hb dX0_begunInAll_5 rfl (lv_at hl 0 rfl) ?_
    refine wk_get (ref := "WokenRooms$Chip") (C := RX0) (T := TX0) (N := 8) (ci := 0) (v := .int (M 0 ch 0 1)) hx hb hts (fun _ h => List.mem_cons_of_mem _ (List.mem_append_left _ (List.mem_append_right _ h))) hown hK hP (wk_l0 hL hc 0 (by decide)) wk_c0 rfl 1 (by decide) q1 rfl rfl dX0_begunInAll_6 ?_
    refine lv_icmp_ge (tgt := 30) hx hb dX0_begunInAll_9 (by decide) (fun g1 => ?_) (fun g1 => ?_)
    · have h := wk_p g1 h
      refine lv_iload_n hx hb dX0_begunInAll_30 rfl (lv_at hl 1 rfl) ?_
      exact RT _ _ _ _ _ _ h hP hS dX0_begunInAll_31
    · have h := wk_n g1 h
      refine lv_iload_n hx hb dX0_begunInAll_12 rfl (lv_at hl 1 rfl) ?_
      refine lv_aload_n hx hb dX0_begunInAll_13 rfl (lv_at hl 0 rfl) ?_
      refine wk_get (ref := "WokenRooms$Chip") (C := RX0) (T := TX0) (N := 8) (ci := 0) (v := .ref (B 1 ch 0)) hx hb hts (fun _ h => List.mem_cons_of_mem _ (List.mem_append_left _ (List.mem_append_right _ h))) hown hK hP (wk_l0 hL hc 0 (by decide)) wk_c0 rfl 0 (by decide) q2 rfl rfl dX0_begunInAll_14 ?_
      refine lv_iload_n hx hb dX0_begunInAll_17 rfl (lv_at hl 2 rfl) ?_
      obtain ⟨g2, h⟩ := wk_gd_e h
      refine wk_aaldR (j := v2.toNatClampNeg) hx hb hK hP (wk_l0 hL hc 1 (by decide)) g2 rfl dX0_begunInAll_18 ?_
      refine wk_get (ref := "WokenRooms$Room") (C := RX2) (T := TX2) (N := 15) (ci := 2) (v := .int (M 6 ch v2.toNatClampNeg 10)) hx hb hts (fun _ h => List.mem_cons_of_mem _ (List.mem_append_right _ h)) hown hK hP (wk_l6 hL hc (wk_ix g2) 6 (by decide) (by decide)) wk_c6 rfl 10 (by decide) q3 rfl rfl dX0_begunInAll_19 ?_
      refine lv_iadd hx hb dX0_begunInAll_22 ?_
      obtain ⟨x3, ex3, h⟩ := wk_lt_e h
      refine wk_topi ex3 ?_
      refine lv_istore_n (lv' := [(1, .int x3), (0, .ref (B 0 ch 0)), (2, .int v2)]) hx hb dX0_begunInAll_23 rfl hl (by decide) rfl (fun ls hl => ?_)
      obtain ⟨x4, ex4, h⟩ := wk_lt_e h
      refine lv_iinc (v := x4) (lv' := [(2, .int x4), (1, .int x3), (0, .ref (B 0 ch 0))]) hx hb dX0_begunInAll_24 hl (k := 2) rfl (by rw [← ex4]; rfl) (by decide) rfl (fun ls hl => ?_)
      refine lv_goto (tgt := 4) hx hb dX0_begunInAll_27 (by decide) ?_
      exact ih _ _ _ _ _ _ h (lv_sub hl [2, 1, 0] rfl) hP hS
set_option maxRecDepth 100000 in
set_option maxHeartbeats 4000000 in
theorem w_X0_begunInAll_0 {ch : Nat} {r0 : Int32} (CX : wk_X p l e R s m args below meth c cells slots Q cX0_begunInAll 3 RX0 wsX0_begunInAll D y B Lk A 0 0) (RT : wk_Ri p l e R s m args below meth c cells slots Q cX0_begunInAll D y B Lk A r0 MM) (hc : ch < 7) {M : wk_T} {H : Heap} {locs : List Loc} {ls : Array Slot} (h : f_X0_begunInAll ch M = some (r0, MM)) (hl : lv_has ls 3 [(0, .ref (B 0 ch 0))]) (hP : wk_H D y B Lk M H) (hS : va_S A s.heap H locs) : W p l e R s m args below meth c H locs cells slots Q (F0 m 0 ls []) := by
  obtain ⟨⟨hx, hb, hml, hown, hts⟩, hK, hI, hL, hA, hfr, hlo, hcs⟩ := id CX
  obtain ⟨q1, q2, q3⟩ := q_X0_begunInAll hts
  unfold f_X0_begunInAll at h
  refine lv_iconst (v := 0) hx hb dX0_begunInAll_0 (by decide) ?_
  refine lv_istore_n (lv' := [(1, .int 0), (0, .ref (B 0 ch 0))]) hx hb dX0_begunInAll_1 rfl hl (by decide) rfl (fun ls hl => ?_)
  refine lv_iconst (v := 0) hx hb dX0_begunInAll_2 (by decide) ?_
  refine lv_istore_n (lv' := [(2, .int 0), (1, .int 0), (0, .ref (B 0 ch 0))]) hx hb dX0_begunInAll_3 rfl hl (by decide) rfl (fun ls hl => ?_)
  exact w_X0_begunInAll_4 CX RT hc wk_fuel _ _ _ _ _ _ h (lv_sub hl [2, 1, 0] rfl) hP hS
set_option maxRecDepth 100000 in
set_option maxHeartbeats 4000000 in
theorem m_X0_begunInAll (l : Launch) {D : va_G} {y : Nat → ClassId} {B : Nat → Nat → Nat → Nat} {Lk : Nat → Nat → Nat → Prop} (hI : wk_I B Lk) (hL : wk_L Lk) {ch : Nat} (hc : ch < 7) {M : wk_T} {r0 : Int32} {MM : wk_T} (hf : f_X0_begunInAll ch M = some (r0, MM)) : wk_Mi l yX0_begunInAll wsX0_begunInAll 0 0 D y B Lk [.ref (B 0 ch 0)] M r0 MM :=
  wk_ofI (own := RX0) (bytes := cX0_begunInAll) (maxL := 3) (ret := some .int) (by decide +kernel) rfl rfl (Or.inl rfl) (Nat.le_of_ble_eq_true rfl) hI hL (fun p e s m args below meth c ls CX RTi RTz hl hP hS => w_X0_begunInAll_0 CX (RTi rfl) hc hf hl hP hS)
def f_X0_lateInAll_4 (ch : Nat) : Nat → Int32 → Int32 → wk_T → Option (Int32 × wk_T)
  | 0, _, _, _ => none
  | n + 1, v1, v2, M => (if (M 0 ch 0 1) ≤ v2 then (some (v1, M)) else wk_gd (¬ (v2 < 0 ∨ 8 ≤ v2.toNatClampNeg)) (wk_lt ((v1 + (M 6 ch v2.toNatClampNeg 11))) (fun x3 => wk_lt (v2 + 1) (fun x4 => (f_X0_lateInAll_4 ch n x3 x4 M)))))
def f_X0_lateInAll (ch : Nat) (M : wk_T) : Option (Int32 × wk_T) := (f_X0_lateInAll_4 ch wk_fuel 0 0 M)
set_option maxRecDepth 20000 in
theorem q_X0_lateInAll {s : State} {args : Array Value} (hts : ∀ w ∈ wsX0_lateInAll, w.before args s = true) : (Cond.fieldLink RX0 31 "WokenRooms$Chip" "roomCount" "I").before args s = true ∧ (Cond.fieldLink RX0 11 "WokenRooms$Chip" "rooms" "[LWokenRooms$Room;").before args s = true ∧ (Cond.fieldLink RX0 75 "WokenRooms$Room" "late" "I").before args s = true := ⟨hts _ (List.mem_of_getElem? (i := 1) rfl), hts _ (List.mem_of_getElem? (i := 2) rfl), hts _ (List.mem_of_getElem? (i := 3) rfl)⟩
set_option maxRecDepth 100000 in
set_option maxHeartbeats 4000000 in
theorem w_X0_lateInAll_4 {ch : Nat} {r0 : Int32} (CX : wk_X p l e R s m args below meth c cells slots Q cX0_lateInAll 3 RX0 wsX0_lateInAll D y B Lk A 0 0) (RT : wk_Ri p l e R s m args below meth c cells slots Q cX0_lateInAll D y B Lk A r0 MM) (hc : ch < 7) : ∀ (n : Nat) (v1 : Int32) (v2 : Int32) (M : wk_T) (H : Heap) (locs : List Loc) (ls : Array Slot), f_X0_lateInAll_4 ch n v1 v2 M = some (r0, MM) → lv_has ls 3 [(0, .ref (B 0 ch 0)), (1, .int v1), (2, .int v2)] → wk_H D y B Lk M H → va_S A s.heap H locs → W p l e R s m args below meth c H locs cells slots Q (F0 m 4 ls []) := by
  obtain ⟨⟨hx, hb, hml, hown, hts⟩, hK, hI, hL, hA, hfr, hlo, hcs⟩ := id CX
  obtain ⟨q1, q2, q3⟩ := q_X0_lateInAll hts
  intro n
  induction n with
  | zero =>
    intro v1 v2 M H locs ls h
    exact absurd h (by rw [f_X0_lateInAll_4]; exact fun z => nomatch z)
  | succ n ih =>
    intro v1 v2 M H locs ls h hl hP hS
    rw [f_X0_lateInAll_4] at h
    refine lv_iload_n hx hb dX0_lateInAll_4 rfl (lv_at hl 2 rfl) ?_
    refine lv_aload_n hx hb dX0_lateInAll_5 rfl (lv_at hl 0 rfl) ?_
    refine wk_get (ref := "WokenRooms$Chip") (C := RX0) (T := TX0) (N := 8) (ci := 0) (v := .int (M 0 ch 0 1)) hx hb hts (fun _ h => List.mem_cons_of_mem _ (List.mem_append_left _ (List.mem_append_right _ h))) hown hK hP (wk_l0 hL hc 0 (by decide)) wk_c0 rfl 1 (by decide) q1 rfl rfl dX0_lateInAll_6 ?_
    refine lv_icmp_ge (tgt := 30) hx hb dX0_lateInAll_9 (by decide) (fun g1 => ?_) (fun g1 => ?_)
    · have h := wk_p g1 h
      refine lv_iload_n hx hb dX0_lateInAll_30 rfl (lv_at hl 1 rfl) ?_
      exact RT _ _ _ _ _ _ h hP hS dX0_lateInAll_31
    · have h := wk_n g1 h
      refine lv_iload_n hx hb dX0_lateInAll_12 rfl (lv_at hl 1 rfl) ?_
      refine lv_aload_n hx hb dX0_lateInAll_13 rfl (lv_at hl 0 rfl) ?_
      refine wk_get (ref := "WokenRooms$Chip") (C := RX0) (T := TX0) (N := 8) (ci := 0) (v := .ref (B 1 ch 0)) hx hb hts (fun _ h => List.mem_cons_of_mem _ (List.mem_append_left _ (List.mem_append_right _ h))) hown hK hP (wk_l0 hL hc 0 (by decide)) wk_c0 rfl 0 (by decide) q2 rfl rfl dX0_lateInAll_14 ?_
      refine lv_iload_n hx hb dX0_lateInAll_17 rfl (lv_at hl 2 rfl) ?_
      obtain ⟨g2, h⟩ := wk_gd_e h
      refine wk_aaldR (j := v2.toNatClampNeg) hx hb hK hP (wk_l0 hL hc 1 (by decide)) g2 rfl dX0_lateInAll_18 ?_
      refine wk_get (ref := "WokenRooms$Room") (C := RX2) (T := TX2) (N := 15) (ci := 2) (v := .int (M 6 ch v2.toNatClampNeg 11)) hx hb hts (fun _ h => List.mem_cons_of_mem _ (List.mem_append_right _ h)) hown hK hP (wk_l6 hL hc (wk_ix g2) 6 (by decide) (by decide)) wk_c6 rfl 11 (by decide) q3 rfl rfl dX0_lateInAll_19 ?_
      refine lv_iadd hx hb dX0_lateInAll_22 ?_
      obtain ⟨x3, ex3, h⟩ := wk_lt_e h
      refine wk_topi ex3 ?_
      refine lv_istore_n (lv' := [(1, .int x3), (0, .ref (B 0 ch 0)), (2, .int v2)]) hx hb dX0_lateInAll_23 rfl hl (by decide) rfl (fun ls hl => ?_)
      obtain ⟨x4, ex4, h⟩ := wk_lt_e h
      refine lv_iinc (v := x4) (lv' := [(2, .int x4), (1, .int x3), (0, .ref (B 0 ch 0))]) hx hb dX0_lateInAll_24 hl (k := 2) rfl (by rw [← ex4]; rfl) (by decide) rfl (fun ls hl => ?_)
      refine lv_goto (tgt := 4) hx hb dX0_lateInAll_27 (by decide) ?_
      exact ih _ _ _ _ _ _ h (lv_sub hl [2, 1, 0] rfl) hP hS
set_option maxRecDepth 100000 in
set_option maxHeartbeats 4000000 in
theorem w_X0_lateInAll_0 {ch : Nat} {r0 : Int32} (CX : wk_X p l e R s m args below meth c cells slots Q cX0_lateInAll 3 RX0 wsX0_lateInAll D y B Lk A 0 0) (RT : wk_Ri p l e R s m args below meth c cells slots Q cX0_lateInAll D y B Lk A r0 MM) (hc : ch < 7) {M : wk_T} {H : Heap} {locs : List Loc} {ls : Array Slot} (h : f_X0_lateInAll ch M = some (r0, MM)) (hl : lv_has ls 3 [(0, .ref (B 0 ch 0))]) (hP : wk_H D y B Lk M H) (hS : va_S A s.heap H locs) : W p l e R s m args below meth c H locs cells slots Q (F0 m 0 ls []) := by
  obtain ⟨⟨hx, hb, hml, hown, hts⟩, hK, hI, hL, hA, hfr, hlo, hcs⟩ := id CX
  obtain ⟨q1, q2, q3⟩ := q_X0_lateInAll hts
  unfold f_X0_lateInAll at h
  refine lv_iconst (v := 0) hx hb dX0_lateInAll_0 (by decide) ?_
  refine lv_istore_n (lv' := [(1, .int 0), (0, .ref (B 0 ch 0))]) hx hb dX0_lateInAll_1 rfl hl (by decide) rfl (fun ls hl => ?_)
  refine lv_iconst (v := 0) hx hb dX0_lateInAll_2 (by decide) ?_
  refine lv_istore_n (lv' := [(2, .int 0), (1, .int 0), (0, .ref (B 0 ch 0))]) hx hb dX0_lateInAll_3 rfl hl (by decide) rfl (fun ls hl => ?_)
  exact w_X0_lateInAll_4 CX RT hc wk_fuel _ _ _ _ _ _ h (lv_sub hl [2, 1, 0] rfl) hP hS
set_option maxRecDepth 100000 in
set_option maxHeartbeats 4000000 in
theorem m_X0_lateInAll (l : Launch) {D : va_G} {y : Nat → ClassId} {B : Nat → Nat → Nat → Nat} {Lk : Nat → Nat → Nat → Prop} (hI : wk_I B Lk) (hL : wk_L Lk) {ch : Nat} (hc : ch < 7) {M : wk_T} {r0 : Int32} {MM : wk_T} (hf : f_X0_lateInAll ch M = some (r0, MM)) : wk_Mi l yX0_lateInAll wsX0_lateInAll 0 0 D y B Lk [.ref (B 0 ch 0)] M r0 MM :=
  wk_ofI (own := RX0) (bytes := cX0_lateInAll) (maxL := 3) (ret := some .int) (by decide +kernel) rfl rfl (Or.inl rfl) (Nat.le_of_ble_eq_true rfl) hI hL (fun p e s m args below meth c ls CX RTi RTz hl hP hS => w_X0_lateInAll_0 CX (RTi rfl) hc hf hl hP hS)
def f_X0_tell (ch : Nat) (v1 : Int32) (M : wk_T) : Option (Int32 × wk_T) := (if v1 = 0 then (some ((M 0 ch 0 1), M)) else (if v1 = 1 then (some ((M 0 ch 0 6), M)) else (if v1 = 2 then (some ((M 0 ch 0 7), M)) else (if v1 = 3 then wk_cl (f_X0_roomsIn ch 0 M) (fun r5 M6 => (some (r5, M6))) else (if v1 = 4 then wk_cl (f_X0_roomsIn ch 1 M) (fun r8 M9 => (some (r8, M9))) else (if v1 = 5 then wk_cl (f_X0_roomsIn ch 2 M) (fun r11 M12 => (some (r11, M12))) else (if v1 = 6 then wk_cl (f_X0_roomsIn ch 3 M) (fun r14 M15 => (some (r14, M15))) else (if v1 = 7 then wk_cl (f_X0_paidInAll ch M) (fun r17 M18 => (some (r17, M18))) else (if v1 = 8 then wk_cl (f_X0_begunInAll ch M) (fun r20 M21 => (some (r20, M21))) else wk_cl (f_X0_lateInAll ch M) (fun r22 M23 => (some (r22, M23))))))))))))
set_option maxRecDepth 20000 in
theorem q_X0_tell {s : State} {args : Array Value} (hts : ∀ w ∈ wsX0_tell, w.before args s = true) : (Cond.fieldLink RX0 31 "WokenRooms$Chip" "roomCount" "I").before args s = true ∧ (Cond.fieldLink RX0 45 "WokenRooms$Chip" "useCount" "I").before args s = true ∧ (Cond.fieldLink RX0 48 "WokenRooms$Chip" "time" "I").before args s = true := ⟨hts _ (List.mem_of_getElem? (i := 1) rfl), hts _ (List.mem_of_getElem? (i := 2) rfl), hts _ (List.mem_of_getElem? (i := 3) rfl)⟩
set_option maxRecDepth 100000 in
set_option maxHeartbeats 4000000 in
theorem w_X0_tell_0 {ch : Nat} {r0 : Int32} (CX : wk_X p l e R s m args below meth c cells slots Q cX0_tell 2 RX0 wsX0_tell D y B Lk A 2 42) (RT : wk_Ri p l e R s m args below meth c cells slots Q cX0_tell D y B Lk A r0 MM) (hc : ch < 7) {v1 : Int32} {M : wk_T} {H : Heap} {locs : List Loc} {ls : Array Slot} (h : f_X0_tell ch v1 M = some (r0, MM)) (hl : lv_has ls 2 [(0, .ref (B 0 ch 0)), (1, .int v1)]) (hP : wk_H D y B Lk M H) (hS : va_S A s.heap H locs) : W p l e R s m args below meth c H locs cells slots Q (F0 m 0 ls []) := by
  obtain ⟨⟨hx, hb, hml, hown, hts⟩, hK, hI, hL, hA, hfr, hlo, hcs⟩ := id CX
  obtain ⟨q1, q2, q3⟩ := q_X0_tell hts
  unfold f_X0_tell at h
  refine lv_iload_n hx hb dX0_tell_0 rfl (lv_at hl 1 rfl) ?_
  by_cases g1 : v1 = 0
  · have h := wk_p g1 h
    refine lv_tableIn (off := 51) (tgt := 52) hx hb dX0_tell_1 (by rw [g1]; decide) (by rw [g1]; decide) (by rw [g1]; rfl) (by decide) ?_
    refine lv_aload_n hx hb dX0_tell_52 rfl (lv_at hl 0 rfl) ?_
    refine wk_get (ref := "WokenRooms$Chip") (C := RX0) (T := TX0) (N := 8) (ci := 0) (v := .int (M 0 ch 0 1)) hx hb hts (fun _ h => List.mem_cons_of_mem _ (List.mem_append_left _ (List.mem_append_right _ h))) hown hK hP (wk_l0 hL hc 0 (by decide)) wk_c0 rfl 1 (by decide) q1 rfl rfl dX0_tell_53 ?_
    exact RT _ _ _ _ _ _ h hP hS dX0_tell_56
  · have h := wk_n g1 h
    by_cases g2 : v1 = 1
    · have h := wk_p g2 h
      refine lv_tableIn (off := 56) (tgt := 57) hx hb dX0_tell_1 (by rw [g2]; decide) (by rw [g2]; decide) (by rw [g2]; rfl) (by decide) ?_
      refine lv_aload_n hx hb dX0_tell_57 rfl (lv_at hl 0 rfl) ?_
      refine wk_get (ref := "WokenRooms$Chip") (C := RX0) (T := TX0) (N := 8) (ci := 0) (v := .int (M 0 ch 0 6)) hx hb hts (fun _ h => List.mem_cons_of_mem _ (List.mem_append_left _ (List.mem_append_right _ h))) hown hK hP (wk_l0 hL hc 0 (by decide)) wk_c0 rfl 6 (by decide) q2 rfl rfl dX0_tell_58 ?_
      exact RT _ _ _ _ _ _ h hP hS dX0_tell_61
    · have h := wk_n g2 h
      by_cases g3 : v1 = 2
      · have h := wk_p g3 h
        refine lv_tableIn (off := 61) (tgt := 62) hx hb dX0_tell_1 (by rw [g3]; decide) (by rw [g3]; decide) (by rw [g3]; rfl) (by decide) ?_
        refine lv_aload_n hx hb dX0_tell_62 rfl (lv_at hl 0 rfl) ?_
        refine wk_get (ref := "WokenRooms$Chip") (C := RX0) (T := TX0) (N := 8) (ci := 0) (v := .int (M 0 ch 0 7)) hx hb hts (fun _ h => List.mem_cons_of_mem _ (List.mem_append_left _ (List.mem_append_right _ h))) hown hK hP (wk_l0 hL hc 0 (by decide)) wk_c0 rfl 7 (by decide) q3 rfl rfl dX0_tell_63 ?_
        exact RT _ _ _ _ _ _ h hP hS dX0_tell_66
      · have h := wk_n g3 h
        by_cases g4 : v1 = 3
        · have h := wk_p g4 h
          refine lv_tableIn (off := 66) (tgt := 67) hx hb dX0_tell_1 (by rw [g4]; decide) (by rw [g4]; decide) (by rw [g4]; rfl) (by decide) ?_
          refine lv_aload_n hx hb dX0_tell_67 rfl (lv_at hl 0 rfl) ?_
          refine lv_iconst (v := 0) hx hb dX0_tell_68 (by decide) ?_
          obtain ⟨r5, M6, er5, h⟩ := wk_cl_e h
          refine wk_cVi (As := [.int 0]) (rest := []) ⟨hx, hb, hml, hown, hts⟩ (m_X0_roomsIn l hI hL hc er5) (cwV 1 hts gX0_tell_X0_roomsIn rfl rfl rfl (by decide +kernel) ⟨Nat.le_trans (by decide) hfr, Nat.le_trans (by decide) hlo⟩) hK hP hS hA (wk_l0 hL hc 0 (by decide)) wk_c0 rfl rfl hl.1 (lv_room (Nat.le_of_ble_eq_true rfl)) hcs dX0_tell_69 (fun H locs hP hS => ?_)
          exact RT _ _ _ _ _ _ h hP hS dX0_tell_72
        · have h := wk_n g4 h
          by_cases g7 : v1 = 4
          · have h := wk_p g7 h
            refine lv_tableIn (off := 72) (tgt := 73) hx hb dX0_tell_1 (by rw [g7]; decide) (by rw [g7]; decide) (by rw [g7]; rfl) (by decide) ?_
            refine lv_aload_n hx hb dX0_tell_73 rfl (lv_at hl 0 rfl) ?_
            refine lv_iconst (v := 1) hx hb dX0_tell_74 (by decide) ?_
            obtain ⟨r8, M9, er8, h⟩ := wk_cl_e h
            refine wk_cVi (As := [.int 1]) (rest := []) ⟨hx, hb, hml, hown, hts⟩ (m_X0_roomsIn l hI hL hc er8) (cwV 1 hts gX0_tell_X0_roomsIn rfl rfl rfl (by decide +kernel) ⟨Nat.le_trans (by decide) hfr, Nat.le_trans (by decide) hlo⟩) hK hP hS hA (wk_l0 hL hc 0 (by decide)) wk_c0 rfl rfl hl.1 (lv_room (Nat.le_of_ble_eq_true rfl)) hcs dX0_tell_75 (fun H locs hP hS => ?_)
            exact RT _ _ _ _ _ _ h hP hS dX0_tell_78
          · have h := wk_n g7 h
            by_cases g10 : v1 = 5
            · have h := wk_p g10 h
              refine lv_tableIn (off := 78) (tgt := 79) hx hb dX0_tell_1 (by rw [g10]; decide) (by rw [g10]; decide) (by rw [g10]; rfl) (by decide) ?_
              refine lv_aload_n hx hb dX0_tell_79 rfl (lv_at hl 0 rfl) ?_
              refine lv_iconst (v := 2) hx hb dX0_tell_80 (by decide) ?_
              obtain ⟨r11, M12, er11, h⟩ := wk_cl_e h
              refine wk_cVi (As := [.int 2]) (rest := []) ⟨hx, hb, hml, hown, hts⟩ (m_X0_roomsIn l hI hL hc er11) (cwV 1 hts gX0_tell_X0_roomsIn rfl rfl rfl (by decide +kernel) ⟨Nat.le_trans (by decide) hfr, Nat.le_trans (by decide) hlo⟩) hK hP hS hA (wk_l0 hL hc 0 (by decide)) wk_c0 rfl rfl hl.1 (lv_room (Nat.le_of_ble_eq_true rfl)) hcs dX0_tell_81 (fun H locs hP hS => ?_)
              exact RT _ _ _ _ _ _ h hP hS dX0_tell_84
            · have h := wk_n g10 h
              by_cases g13 : v1 = 6
              · have h := wk_p g13 h
                refine lv_tableIn (off := 84) (tgt := 85) hx hb dX0_tell_1 (by rw [g13]; decide) (by rw [g13]; decide) (by rw [g13]; rfl) (by decide) ?_
                refine lv_aload_n hx hb dX0_tell_85 rfl (lv_at hl 0 rfl) ?_
                refine lv_iconst (v := 3) hx hb dX0_tell_86 (by decide) ?_
                obtain ⟨r14, M15, er14, h⟩ := wk_cl_e h
                refine wk_cVi (As := [.int 3]) (rest := []) ⟨hx, hb, hml, hown, hts⟩ (m_X0_roomsIn l hI hL hc er14) (cwV 1 hts gX0_tell_X0_roomsIn rfl rfl rfl (by decide +kernel) ⟨Nat.le_trans (by decide) hfr, Nat.le_trans (by decide) hlo⟩) hK hP hS hA (wk_l0 hL hc 0 (by decide)) wk_c0 rfl rfl hl.1 (lv_room (Nat.le_of_ble_eq_true rfl)) hcs dX0_tell_87 (fun H locs hP hS => ?_)
                exact RT _ _ _ _ _ _ h hP hS dX0_tell_90
              · have h := wk_n g13 h
                by_cases g16 : v1 = 7
                · have h := wk_p g16 h
                  refine lv_tableIn (off := 90) (tgt := 91) hx hb dX0_tell_1 (by rw [g16]; decide) (by rw [g16]; decide) (by rw [g16]; rfl) (by decide) ?_
                  refine lv_aload_n hx hb dX0_tell_91 rfl (lv_at hl 0 rfl) ?_
                  obtain ⟨r17, M18, er17, h⟩ := wk_cl_e h
                  refine wk_cVi (As := []) (rest := []) ⟨hx, hb, hml, hown, hts⟩ (m_X0_paidInAll l hI hL hc er17) (cwV 0 hts gX0_tell_X0_paidInAll rfl rfl rfl (by decide +kernel) ⟨Nat.le_trans (by decide) hfr, Nat.le_trans (by decide) hlo⟩) hK hP hS hA (wk_l0 hL hc 0 (by decide)) wk_c0 rfl rfl hl.1 (lv_room (Nat.le_of_ble_eq_true rfl)) hcs dX0_tell_92 (fun H locs hP hS => ?_)
                  exact RT _ _ _ _ _ _ h hP hS dX0_tell_95
                · have h := wk_n g16 h
                  by_cases g19 : v1 = 8
                  · have h := wk_p g19 h
                    refine lv_tableIn (off := 95) (tgt := 96) hx hb dX0_tell_1 (by rw [g19]; decide) (by rw [g19]; decide) (by rw [g19]; rfl) (by decide) ?_
                    refine lv_aload_n hx hb dX0_tell_96 rfl (lv_at hl 0 rfl) ?_
                    obtain ⟨r20, M21, er20, h⟩ := wk_cl_e h
                    refine wk_cVi (As := []) (rest := []) ⟨hx, hb, hml, hown, hts⟩ (m_X0_begunInAll l hI hL hc er20) (cwV 0 hts gX0_tell_X0_begunInAll rfl rfl rfl (by decide +kernel) ⟨Nat.le_trans (by decide) hfr, Nat.le_trans (by decide) hlo⟩) hK hP hS hA (wk_l0 hL hc 0 (by decide)) wk_c0 rfl rfl hl.1 (lv_room (Nat.le_of_ble_eq_true rfl)) hcs dX0_tell_97 (fun H locs hP hS => ?_)
                    exact RT _ _ _ _ _ _ h hP hS dX0_tell_100
                  · have h := wk_n g19 h
                    refine lv_tableOut (tgt := 101) hx hb dX0_tell_1 (by have q0 := lv_neT g1 (a := 0) (by decide); have q1 := lv_neT g2 (a := 1) (by decide); have q2 := lv_neT g3 (a := 2) (by decide); have q3 := lv_neT g4 (a := 3) (by decide); have q4 := lv_neT g7 (a := 4) (by decide); have q5 := lv_neT g10 (a := 5) (by decide); have q6 := lv_neT g13 (a := 6) (by decide); have q7 := lv_neT g16 (a := 7) (by decide); have q8 := lv_neT g19 (a := 8) (by decide); omega) (by decide) ?_
                    refine lv_aload_n hx hb dX0_tell_101 rfl (lv_at hl 0 rfl) ?_
                    obtain ⟨r22, M23, er22, h⟩ := wk_cl_e h
                    refine wk_cVi (As := []) (rest := []) ⟨hx, hb, hml, hown, hts⟩ (m_X0_lateInAll l hI hL hc er22) (cwV 0 hts gX0_tell_X0_lateInAll rfl rfl rfl (by decide +kernel) ⟨Nat.le_trans (by decide) hfr, Nat.le_trans (by decide) hlo⟩) hK hP hS hA (wk_l0 hL hc 0 (by decide)) wk_c0 rfl rfl hl.1 (lv_room (Nat.le_of_ble_eq_true rfl)) hcs dX0_tell_102 (fun H locs hP hS => ?_)
                    exact RT _ _ _ _ _ _ h hP hS dX0_tell_105
set_option maxRecDepth 100000 in
set_option maxHeartbeats 4000000 in
theorem m_X0_tell (l : Launch) {D : va_G} {y : Nat → ClassId} {B : Nat → Nat → Nat → Nat} {Lk : Nat → Nat → Nat → Prop} (hI : wk_I B Lk) (hL : wk_L Lk) {ch : Nat} (hc : ch < 7) {v1 : Int32} {M : wk_T} {r0 : Int32} {MM : wk_T} (hf : f_X0_tell ch v1 M = some (r0, MM)) : wk_Mi l yX0_tell wsX0_tell 2 42 D y B Lk [.ref (B 0 ch 0), .int v1] M r0 MM :=
  wk_ofI (own := RX0) (bytes := cX0_tell) (maxL := 2) (ret := some .int) (by decide +kernel) rfl rfl (Or.inl rfl) (Nat.le_of_ble_eq_true rfl) hI hL (fun p e s m args below meth c ls CX RTi RTz hl hP hS => w_X0_tell_0 CX (RTi rfl) hc hf hl hP hS)
end WP12
