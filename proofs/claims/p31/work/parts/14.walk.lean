/-! walks by program: X0_usesOf, X0_firstUseOf, X0_isCalled, X0_isReady, X0_railLetsWake, X0_hasDependentsUp, X0_wakeRoom, X0_sendToSleep, X0_soughtFor, X0_wakeIfPossible, X0_beginDueUse, X0_goOn, X0_passTick, X0_letTicksGoBy -/
section WP14
variable {p : Program} {l : Launch} {e : Env} {R : Room} {s : State} {m : MethodId} {args : Array Value} {below : List Frame} {meth : Method} {c : Code} {cells slots : Nat} {Q : State → Prop}
variable {D : va_G} {y : Nat → ClassId} {B : Nat → Nat → Nat → Nat} {Lk : Nat → Nat → Nat → Prop} {A : Nat → Prop} {MM : wk_T}
def f_X0_usesOf_25 (ch : Nat) (k4 : Int32 → Int32 → Int32 → wk_T → Option (Int32 × wk_T)) (v1 : Int32) (v2 : Int32) (v3 : Int32) (M : wk_T) : Option (Int32 × wk_T) := wk_lt (v3 + 1) (fun x1 => (k4 v1 v2 x1 M))
def f_X0_usesOf_4 (ch : Nat) : Nat → Int32 → Int32 → Int32 → wk_T → Option (Int32 × wk_T)
  | 0, _, _, _, _ => none
  | n + 1, v1, v2, v3, M => (if (M 0 ch 0 6) ≤ v3 then (some (v2, M)) else wk_gd (¬ (v3 < 0 ∨ 12 ≤ v3.toNatClampNeg)) ((if (M 3 ch 0 (v3.toNatClampNeg)) = v1 then wk_lt (v2 + 1) (fun x4 => (f_X0_usesOf_25 ch (f_X0_usesOf_4 ch n) v1 x4 v3 M)) else (f_X0_usesOf_25 ch (f_X0_usesOf_4 ch n) v1 v2 v3 M))))
def f_X0_usesOf (ch : Nat) (v1 : Int32) (M : wk_T) : Option (Int32 × wk_T) := (f_X0_usesOf_4 ch wk_fuel v1 0 0 M)
set_option maxRecDepth 20000 in
theorem q_X0_usesOf {s : State} {args : Array Value} (hts : ∀ w ∈ wsX0_usesOf, w.before args s = true) : (Cond.fieldLink RX0 45 "WokenRooms$Chip" "useCount" "I").before args s = true ∧ (Cond.fieldLink RX0 21 "WokenRooms$Chip" "useRooms" "[I").before args s = true := ⟨hts _ (List.mem_of_getElem? (i := 1) rfl), hts _ (List.mem_of_getElem? (i := 2) rfl)⟩
set_option maxRecDepth 100000 in
set_option maxHeartbeats 4000000 in
theorem w_X0_usesOf_25 {ch : Nat} {r0 : Int32} (CX : wk_X p l e R s m args below meth c cells slots Q cX0_usesOf 4 RX0 wsX0_usesOf D y B Lk A 0 0) (RT : wk_Ri p l e R s m args below meth c cells slots Q cX0_usesOf D y B Lk A r0 MM) (hc : ch < 7) {k4 : Int32 → Int32 → Int32 → wk_T → Option (Int32 × wk_T)} (hk4 : ∀ (v1 : Int32) (v2 : Int32) (v3 : Int32) (M : wk_T) (H : Heap) (locs : List Loc) (ls : Array Slot), k4 v1 v2 v3 M = some (r0, MM) → lv_has ls 4 [(0, .ref (B 0 ch 0)), (1, .int v1), (2, .int v2), (3, .int v3)] → wk_H D y B Lk M H → va_S A s.heap H locs → W p l e R s m args below meth c H locs cells slots Q (F0 m 4 ls [])) {v1 : Int32} {v2 : Int32} {v3 : Int32} {M : wk_T} {H : Heap} {locs : List Loc} {ls : Array Slot} (h : f_X0_usesOf_25 ch k4 v1 v2 v3 M = some (r0, MM)) (hl : lv_has ls 4 [(0, .ref (B 0 ch 0)), (1, .int v1), (2, .int v2), (3, .int v3)]) (hP : wk_H D y B Lk M H) (hS : va_S A s.heap H locs) : W p l e R s m args below meth c H locs cells slots Q (F0 m 25 ls []) := by
  obtain ⟨⟨hx, hb, hml, hown, hts⟩, hK, hI, hL, hA, hfr, hlo, hcs⟩ := id CX
  obtain ⟨q1, q2⟩ := q_X0_usesOf hts
  unfold f_X0_usesOf_25 at h
  obtain ⟨x1, ex1, h⟩ := wk_lt_e h
  refine lv_iinc (v := x1) (lv' := [(3, .int x1), (0, .ref (B 0 ch 0)), (1, .int v1), (2, .int v2)]) hx hb dX0_usesOf_25 hl (k := 3) rfl (by rw [← ex1]; rfl) (by decide) rfl (fun ls hl => ?_)
  refine lv_goto (tgt := 4) hx hb dX0_usesOf_28 (by decide) ?_
  exact hk4 _ _ _ _ _ _ _ h (lv_sub hl [1, 2, 3, 0] rfl) hP hS
set_option maxRecDepth 100000 in
set_option maxHeartbeats 4000000 in
theorem w_X0_usesOf_4 {ch : Nat} {r0 : Int32} (CX : wk_X p l e R s m args below meth c cells slots Q cX0_usesOf 4 RX0 wsX0_usesOf D y B Lk A 0 0) (RT : wk_Ri p l e R s m args below meth c cells slots Q cX0_usesOf D y B Lk A r0 MM) (hc : ch < 7) : ∀ (n : Nat) (v1 : Int32) (v2 : Int32) (v3 : Int32) (M : wk_T) (H : Heap) (locs : List Loc) (ls : Array Slot), f_X0_usesOf_4 ch n v1 v2 v3 M = some (r0, MM) → lv_has ls 4 [(0, .ref (B 0 ch 0)), (1, .int v1), (2, .int v2), (3, .int v3)] → wk_H D y B Lk M H → va_S A s.heap H locs → W p l e R s m args below meth c H locs cells slots Q (F0 m 4 ls []) := by
  obtain ⟨⟨hx, hb, hml, hown, hts⟩, hK, hI, hL, hA, hfr, hlo, hcs⟩ := id CX
  obtain ⟨q1, q2⟩ := q_X0_usesOf hts
  intro n
  induction n with
  | zero =>
    intro v1 v2 v3 M H locs ls h
    exact absurd h (by rw [f_X0_usesOf_4]; exact fun z => nomatch z)
  | succ n ih =>
    intro v1 v2 v3 M H locs ls h hl hP hS
    rw [f_X0_usesOf_4] at h
    refine lv_iload_n hx hb dX0_usesOf_4 rfl (lv_at hl 3 rfl) ?_
    refine lv_aload_n hx hb dX0_usesOf_5 rfl (lv_at hl 0 rfl) ?_
    refine wk_get (ref := "WokenRooms$Chip") (C := RX0) (T := TX0) (N := 8) (ci := 0) (v := .int (M 0 ch 0 6)) hx hb hts (fun _ h => List.mem_cons_of_mem _ (List.mem_append_right _ h)) hown hK hP (wk_l0 hL hc 0 (by decide)) wk_c0 rfl 6 (by decide) q1 rfl rfl dX0_usesOf_6 ?_
    refine lv_icmp_ge (tgt := 31) hx hb dX0_usesOf_9 (by decide) (fun g1 => ?_) (fun g1 => ?_)
    · have h := wk_p g1 h
      refine lv_iload_n hx hb dX0_usesOf_31 rfl (lv_at hl 2 rfl) ?_
      exact RT _ _ _ _ _ _ h hP hS dX0_usesOf_32
    · have h := wk_n g1 h
      refine lv_aload_n hx hb dX0_usesOf_12 rfl (lv_at hl 0 rfl) ?_
      refine wk_get (ref := "WokenRooms$Chip") (C := RX0) (T := TX0) (N := 8) (ci := 0) (v := .ref (B 3 ch 0)) hx hb hts (fun _ h => List.mem_cons_of_mem _ (List.mem_append_right _ h)) hown hK hP (wk_l0 hL hc 0 (by decide)) wk_c0 rfl 3 (by decide) q2 rfl rfl dX0_usesOf_13 ?_
      refine lv_iload_n hx hb dX0_usesOf_16 rfl (lv_at hl 3 rfl) ?_
      obtain ⟨g2, h⟩ := wk_gd_e h
      refine wk_iald (j := v3.toNatClampNeg) hx hb hK hP (wk_l0 hL hc 3 (by decide)) wk_c3 g2 rfl dX0_usesOf_17 ?_
      refine lv_iload_n hx hb dX0_usesOf_18 rfl (lv_at hl 1 rfl) ?_
      refine lv_icmp_ne (tgt := 25) hx hb dX0_usesOf_19 (by decide) (fun g3 => ?_) (fun g3 => ?_)
      · have h := wk_n g3 h
        exact w_X0_usesOf_25 CX RT hc ih h (lv_sub hl [0, 1, 2, 3] rfl) hP hS
      · have h := wk_p g3 h
        obtain ⟨x4, ex4, h⟩ := wk_lt_e h
        refine lv_iinc (v := x4) (lv' := [(2, .int x4), (0, .ref (B 0 ch 0)), (1, .int v1), (3, .int v3)]) hx hb dX0_usesOf_22 hl (k := 2) rfl (by rw [← ex4]; rfl) (by decide) rfl (fun ls hl => ?_)
        exact w_X0_usesOf_25 CX RT hc ih h (lv_sub hl [1, 2, 0, 3] rfl) hP hS
set_option maxRecDepth 100000 in
set_option maxHeartbeats 4000000 in
theorem w_X0_usesOf_0 {ch : Nat} {r0 : Int32} (CX : wk_X p l e R s m args below meth c cells slots Q cX0_usesOf 4 RX0 wsX0_usesOf D y B Lk A 0 0) (RT : wk_Ri p l e R s m args below meth c cells slots Q cX0_usesOf D y B Lk A r0 MM) (hc : ch < 7) {v1 : Int32} {M : wk_T} {H : Heap} {locs : List Loc} {ls : Array Slot} (h : f_X0_usesOf ch v1 M = some (r0, MM)) (hl : lv_has ls 4 [(0, .ref (B 0 ch 0)), (1, .int v1)]) (hP : wk_H D y B Lk M H) (hS : va_S A s.heap H locs) : W p l e R s m args below meth c H locs cells slots Q (F0 m 0 ls []) := by
  obtain ⟨⟨hx, hb, hml, hown, hts⟩, hK, hI, hL, hA, hfr, hlo, hcs⟩ := id CX
  obtain ⟨q1, q2⟩ := q_X0_usesOf hts
  unfold f_X0_usesOf at h
  refine lv_iconst (v := 0) hx hb dX0_usesOf_0 (by decide) ?_
  refine lv_istore_n (lv' := [(2, .int 0), (0, .ref (B 0 ch 0)), (1, .int v1)]) hx hb dX0_usesOf_1 rfl hl (by decide) rfl (fun ls hl => ?_)
  refine lv_iconst (v := 0) hx hb dX0_usesOf_2 (by decide) ?_
  refine lv_istore_n (lv' := [(3, .int 0), (2, .int 0), (0, .ref (B 0 ch 0)), (1, .int v1)]) hx hb dX0_usesOf_3 rfl hl (by decide) rfl (fun ls hl => ?_)
  exact w_X0_usesOf_4 CX RT hc wk_fuel _ _ _ _ _ _ _ h (lv_sub hl [2, 3, 1, 0] rfl) hP hS
set_option maxRecDepth 100000 in
set_option maxHeartbeats 4000000 in
theorem m_X0_usesOf (l : Launch) {D : va_G} {y : Nat → ClassId} {B : Nat → Nat → Nat → Nat} {Lk : Nat → Nat → Nat → Prop} (hI : wk_I B Lk) (hL : wk_L Lk) {ch : Nat} (hc : ch < 7) {v1 : Int32} {M : wk_T} {r0 : Int32} {MM : wk_T} (hf : f_X0_usesOf ch v1 M = some (r0, MM)) : wk_Mi l yX0_usesOf wsX0_usesOf 0 0 D y B Lk [.ref (B 0 ch 0), .int v1] M r0 MM :=
  wk_ofI (own := RX0) (bytes := cX0_usesOf) (maxL := 4) (ret := some .int) (by decide +kernel) rfl rfl (Or.inl rfl) (Nat.le_of_ble_eq_true rfl) hI hL (fun p e s m args below meth c ls CX RTi RTz hl hP hS => w_X0_usesOf_0 CX (RTi rfl) hc hf hl hP hS)
def f_X0_firstUseOf_54 (ch : Nat) (k7 : Int32 → Int32 → Int32 → Int32 → wk_T → Option (Int32 × wk_T)) (v1 : Int32) (v2 : Int32) (v3 : Int32) (v4 : Int32) (M : wk_T) : Option (Int32 × wk_T) := wk_lt (v4 + 1) (fun x1 => (k7 v1 v2 v3 x1 M))
def f_X0_firstUseOf_43 (ch : Nat) (k7 : Int32 → Int32 → Int32 → Int32 → wk_T → Option (Int32 × wk_T)) (v1 : Int32) (v4 : Int32) (M : wk_T) : Option (Int32 × wk_T) := wk_gd (¬ (v4 < 0 ∨ 12 ≤ v4.toNatClampNeg)) (wk_lt ((M 4 ch 0 (v4.toNatClampNeg))) (fun x2 => (f_X0_firstUseOf_54 ch k7 v1 v4 x2 v4 M)))
def f_X0_firstUseOf_7 (ch : Nat) : Nat → Int32 → Int32 → Int32 → Int32 → wk_T → Option (Int32 × wk_T)
  | 0, _, _, _, _, _ => none
  | n + 1, v1, v2, v3, v4, M => (if (M 0 ch 0 6) ≤ v4 then (some (v2, M)) else wk_gd (¬ (v4 < 0 ∨ 12 ≤ v4.toNatClampNeg)) ((if (M 3 ch 0 (v4.toNatClampNeg)) = v1 then (if v2 = (-1) then (f_X0_firstUseOf_43 ch (f_X0_firstUseOf_7 ch n) v1 v4 M) else wk_gd (¬ (v4 < 0 ∨ 12 ≤ v4.toNatClampNeg)) ((if v3 ≤ (M 4 ch 0 (v4.toNatClampNeg)) then (f_X0_firstUseOf_54 ch (f_X0_firstUseOf_7 ch n) v1 v2 v3 v4 M) else (f_X0_firstUseOf_43 ch (f_X0_firstUseOf_7 ch n) v1 v4 M)))) else (f_X0_firstUseOf_54 ch (f_X0_firstUseOf_7 ch n) v1 v2 v3 v4 M))))
def f_X0_firstUseOf (ch : Nat) (v1 : Int32) (M : wk_T) : Option (Int32 × wk_T) := (f_X0_firstUseOf_7 ch wk_fuel v1 (-1) 0 0 M)
set_option maxRecDepth 20000 in
theorem q_X0_firstUseOf {s : State} {args : Array Value} (hts : ∀ w ∈ wsX0_firstUseOf, w.before args s = true) : (Cond.fieldLink RX0 45 "WokenRooms$Chip" "useCount" "I").before args s = true ∧ (Cond.fieldLink RX0 21 "WokenRooms$Chip" "useRooms" "[I").before args s = true ∧ (Cond.fieldLink RX0 24 "WokenRooms$Chip" "useTimes" "[I").before args s = true := ⟨hts _ (List.mem_of_getElem? (i := 1) rfl), hts _ (List.mem_of_getElem? (i := 2) rfl), hts _ (List.mem_of_getElem? (i := 3) rfl)⟩
set_option maxRecDepth 100000 in
set_option maxHeartbeats 4000000 in
theorem w_X0_firstUseOf_54 {ch : Nat} {r0 : Int32} (CX : wk_X p l e R s m args below meth c cells slots Q cX0_firstUseOf 5 RX0 wsX0_firstUseOf D y B Lk A 0 0) (RT : wk_Ri p l e R s m args below meth c cells slots Q cX0_firstUseOf D y B Lk A r0 MM) (hc : ch < 7) {k7 : Int32 → Int32 → Int32 → Int32 → wk_T → Option (Int32 × wk_T)} (hk7 : ∀ (v1 : Int32) (v2 : Int32) (v3 : Int32) (v4 : Int32) (M : wk_T) (H : Heap) (locs : List Loc) (ls : Array Slot), k7 v1 v2 v3 v4 M = some (r0, MM) → lv_has ls 5 [(0, .ref (B 0 ch 0)), (1, .int v1), (2, .int v2), (3, .int v3), (4, .int v4)] → wk_H D y B Lk M H → va_S A s.heap H locs → W p l e R s m args below meth c H locs cells slots Q (F0 m 7 ls [])) {v1 : Int32} {v2 : Int32} {v3 : Int32} {v4 : Int32} {M : wk_T} {H : Heap} {locs : List Loc} {ls : Array Slot} (h : f_X0_firstUseOf_54 ch k7 v1 v2 v3 v4 M = some (r0, MM)) (hl : lv_has ls 5 [(0, .ref (B 0 ch 0)), (1, .int v1), (2, .int v2), (3, .int v3), (4, .int v4)]) (hP : wk_H D y B Lk M H) (hS : va_S A s.heap H locs) : W p l e R s m args below meth c H locs cells slots Q (F0 m 54 ls []) := by
  obtain ⟨⟨hx, hb, hml, hown, hts⟩, hK, hI, hL, hA, hfr, hlo, hcs⟩ := id CX
  obtain ⟨q1, q2, q3⟩ := q_X0_firstUseOf hts
  unfold f_X0_firstUseOf_54 at h
  obtain ⟨x1, ex1, h⟩ := wk_lt_e h
  refine lv_iinc (v := x1) (lv' := [(4, .int x1), (0, .ref (B 0 ch 0)), (1, .int v1), (2, .int v2), (3, .int v3)]) hx hb dX0_firstUseOf_54 hl (k := 4) rfl (by rw [← ex1]; rfl) (by decide) rfl (fun ls hl => ?_)
  refine lv_goto (tgt := 7) hx hb dX0_firstUseOf_57 (by decide) ?_
  exact hk7 _ _ _ _ _ _ _ _ h (lv_sub hl [1, 2, 3, 4, 0] rfl) hP hS
set_option maxRecDepth 100000 in
set_option maxHeartbeats 4000000 in
theorem w_X0_firstUseOf_43 {ch : Nat} {r0 : Int32} (CX : wk_X p l e R s m args below meth c cells slots Q cX0_firstUseOf 5 RX0 wsX0_firstUseOf D y B Lk A 0 0) (RT : wk_Ri p l e R s m args below meth c cells slots Q cX0_firstUseOf D y B Lk A r0 MM) (hc : ch < 7) {k7 : Int32 → Int32 → Int32 → Int32 → wk_T → Option (Int32 × wk_T)} (hk7 : ∀ (v1 : Int32) (v2 : Int32) (v3 : Int32) (v4 : Int32) (M : wk_T) (H : Heap) (locs : List Loc) (ls : Array Slot), k7 v1 v2 v3 v4 M = some (r0, MM) → lv_has ls 5 [(0, .ref (B 0 ch 0)), (1, .int v1), (2, .int v2), (3, .int v3), (4, .int v4)] → wk_H D y B Lk M H → va_S A s.heap H locs → W p l e R s m args below meth c H locs cells slots Q (F0 m 7 ls [])) {v1 : Int32} {v4 : Int32} {M : wk_T} {H : Heap} {locs : List Loc} {ls : Array Slot} (h : f_X0_firstUseOf_43 ch k7 v1 v4 M = some (r0, MM)) (hl : lv_has ls 5 [(0, .ref (B 0 ch 0)), (1, .int v1), (4, .int v4)]) (hP : wk_H D y B Lk M H) (hS : va_S A s.heap H locs) : W p l e R s m args below meth c H locs cells slots Q (F0 m 43 ls []) := by
  obtain ⟨⟨hx, hb, hml, hown, hts⟩, hK, hI, hL, hA, hfr, hlo, hcs⟩ := id CX
  obtain ⟨q1, q2, q3⟩ := q_X0_firstUseOf hts
  unfold f_X0_firstUseOf_43 at h
  refine lv_iload hx hb dX0_firstUseOf_43 (lv_at hl 2 rfl) ?_
  refine lv_istore_n (lv' := [(2, .int v4), (0, .ref (B 0 ch 0)), (1, .int v1), (4, .int v4)]) hx hb dX0_firstUseOf_45 rfl hl (by decide) rfl (fun ls hl => ?_)
  refine lv_aload_n hx hb dX0_firstUseOf_46 rfl (lv_at hl 1 rfl) ?_
  refine wk_get (ref := "WokenRooms$Chip") (C := RX0) (T := TX0) (N := 8) (ci := 0) (v := .ref (B 4 ch 0)) hx hb hts (fun _ h => List.mem_cons_of_mem _ (List.mem_append_right _ h)) hown hK hP (wk_l0 hL hc 0 (by decide)) wk_c0 rfl 4 (by decide) q3 rfl rfl dX0_firstUseOf_47 ?_
  refine lv_iload hx hb dX0_firstUseOf_50 (lv_at hl 3 rfl) ?_
  obtain ⟨g1, h⟩ := wk_gd_e h
  refine wk_iald (j := v4.toNatClampNeg) hx hb hK hP (wk_l0 hL hc 4 (by decide)) wk_c4 g1 rfl dX0_firstUseOf_52 ?_
  obtain ⟨x2, ex2, h⟩ := wk_lt_e h
  refine wk_topi ex2 ?_
  refine lv_istore_n (lv' := [(3, .int x2), (2, .int v4), (0, .ref (B 0 ch 0)), (1, .int v1), (4, .int v4)]) hx hb dX0_firstUseOf_53 rfl hl (by decide) rfl (fun ls hl => ?_)
  exact w_X0_firstUseOf_54 CX RT hc hk7 h (lv_sub hl [2, 3, 1, 0, 4] rfl) hP hS
set_option maxRecDepth 100000 in
set_option maxHeartbeats 4000000 in
theorem w_X0_firstUseOf_7 {ch : Nat} {r0 : Int32} (CX : wk_X p l e R s m args below meth c cells slots Q cX0_firstUseOf 5 RX0 wsX0_firstUseOf D y B Lk A 0 0) (RT : wk_Ri p l e R s m args below meth c cells slots Q cX0_firstUseOf D y B Lk A r0 MM) (hc : ch < 7) : ∀ (n : Nat) (v1 : Int32) (v2 : Int32) (v3 : Int32) (v4 : Int32) (M : wk_T) (H : Heap) (locs : List Loc) (ls : Array Slot), f_X0_firstUseOf_7 ch n v1 v2 v3 v4 M = some (r0, MM) → lv_has ls 5 [(0, .ref (B 0 ch 0)), (1, .int v1), (2, .int v2), (3, .int v3), (4, .int v4)] → wk_H D y B Lk M H → va_S A s.heap H locs → W p l e R s m args below meth c H locs cells slots Q (F0 m 7 ls []) := by
  obtain ⟨⟨hx, hb, hml, hown, hts⟩, hK, hI, hL, hA, hfr, hlo, hcs⟩ := id CX
  obtain ⟨q1, q2, q3⟩ := q_X0_firstUseOf hts
  intro n
  induction n with
  | zero =>
    intro v1 v2 v3 v4 M H locs ls h
    exact absurd h (by rw [f_X0_firstUseOf_7]; exact fun z => nomatch z)
  | succ n ih =>
    intro v1 v2 v3 v4 M H locs ls h hl hP hS
    rw [f_X0_firstUseOf_7] at h
    refine lv_iload hx hb dX0_firstUseOf_7 (lv_at hl 4 rfl) ?_
    refine lv_aload_n hx hb dX0_firstUseOf_9 rfl (lv_at hl 0 rfl) ?_
    refine wk_get (ref := "WokenRooms$Chip") (C := RX0) (T := TX0) (N := 8) (ci := 0) (v := .int (M 0 ch 0 6)) hx hb hts (fun _ h => List.mem_cons_of_mem _ (List.mem_append_right _ h)) hown hK hP (wk_l0 hL hc 0 (by decide)) wk_c0 rfl 6 (by decide) q1 rfl rfl dX0_firstUseOf_10 ?_
    refine lv_icmp_ge (tgt := 60) hx hb dX0_firstUseOf_13 (by decide) (fun g1 => ?_) (fun g1 => ?_)
    · have h := wk_p g1 h
      refine lv_iload_n hx hb dX0_firstUseOf_60 rfl (lv_at hl 2 rfl) ?_
      exact RT _ _ _ _ _ _ h hP hS dX0_firstUseOf_61
    · have h := wk_n g1 h
      refine lv_aload_n hx hb dX0_firstUseOf_16 rfl (lv_at hl 0 rfl) ?_
      refine wk_get (ref := "WokenRooms$Chip") (C := RX0) (T := TX0) (N := 8) (ci := 0) (v := .ref (B 3 ch 0)) hx hb hts (fun _ h => List.mem_cons_of_mem _ (List.mem_append_right _ h)) hown hK hP (wk_l0 hL hc 0 (by decide)) wk_c0 rfl 3 (by decide) q2 rfl rfl dX0_firstUseOf_17 ?_
      refine lv_iload hx hb dX0_firstUseOf_20 (lv_at hl 4 rfl) ?_
      obtain ⟨g2, h⟩ := wk_gd_e h
      refine wk_iald (j := v4.toNatClampNeg) hx hb hK hP (wk_l0 hL hc 3 (by decide)) wk_c3 g2 rfl dX0_firstUseOf_22 ?_
      refine lv_iload_n hx hb dX0_firstUseOf_23 rfl (lv_at hl 1 rfl) ?_
      refine lv_icmp_ne (tgt := 54) hx hb dX0_firstUseOf_24 (by decide) (fun g3 => ?_) (fun g3 => ?_)
      · have h := wk_n g3 h
        exact w_X0_firstUseOf_54 CX RT hc ih h (lv_sub hl [0, 1, 2, 3, 4] rfl) hP hS
      · have h := wk_p g3 h
        refine lv_iload_n hx hb dX0_firstUseOf_27 rfl (lv_at hl 2 rfl) ?_
        refine lv_iconst (v := (-1)) hx hb dX0_firstUseOf_28 (by decide) ?_
        refine lv_icmp_eq (tgt := 43) hx hb dX0_firstUseOf_29 (by decide) (fun g4 => ?_) (fun g4 => ?_)
        · have h := wk_p g4 h
          exact w_X0_firstUseOf_43 CX RT hc ih h (lv_sub hl [0, 1, 4] rfl) hP hS
        · have h := wk_n g4 h
          refine lv_aload_n hx hb dX0_firstUseOf_32 rfl (lv_at hl 0 rfl) ?_
          refine wk_get (ref := "WokenRooms$Chip") (C := RX0) (T := TX0) (N := 8) (ci := 0) (v := .ref (B 4 ch 0)) hx hb hts (fun _ h => List.mem_cons_of_mem _ (List.mem_append_right _ h)) hown hK hP (wk_l0 hL hc 0 (by decide)) wk_c0 rfl 4 (by decide) q3 rfl rfl dX0_firstUseOf_33 ?_
          refine lv_iload hx hb dX0_firstUseOf_36 (lv_at hl 4 rfl) ?_
          obtain ⟨g5, h⟩ := wk_gd_e h
          refine wk_iald (j := v4.toNatClampNeg) hx hb hK hP (wk_l0 hL hc 4 (by decide)) wk_c4 g5 rfl dX0_firstUseOf_38 ?_
          refine lv_iload_n hx hb dX0_firstUseOf_39 rfl (lv_at hl 3 rfl) ?_
          refine lv_icmp_ge (tgt := 54) hx hb dX0_firstUseOf_40 (by decide) (fun g6 => ?_) (fun g6 => ?_)
          · have h := wk_p g6 h
            exact w_X0_firstUseOf_54 CX RT hc ih h (lv_sub hl [0, 1, 2, 3, 4] rfl) hP hS
          · have h := wk_n g6 h
            exact w_X0_firstUseOf_43 CX RT hc ih h (lv_sub hl [0, 1, 4] rfl) hP hS
set_option maxRecDepth 100000 in
set_option maxHeartbeats 4000000 in
theorem w_X0_firstUseOf_0 {ch : Nat} {r0 : Int32} (CX : wk_X p l e R s m args below meth c cells slots Q cX0_firstUseOf 5 RX0 wsX0_firstUseOf D y B Lk A 0 0) (RT : wk_Ri p l e R s m args below meth c cells slots Q cX0_firstUseOf D y B Lk A r0 MM) (hc : ch < 7) {v1 : Int32} {M : wk_T} {H : Heap} {locs : List Loc} {ls : Array Slot} (h : f_X0_firstUseOf ch v1 M = some (r0, MM)) (hl : lv_has ls 5 [(0, .ref (B 0 ch 0)), (1, .int v1)]) (hP : wk_H D y B Lk M H) (hS : va_S A s.heap H locs) : W p l e R s m args below meth c H locs cells slots Q (F0 m 0 ls []) := by
  obtain ⟨⟨hx, hb, hml, hown, hts⟩, hK, hI, hL, hA, hfr, hlo, hcs⟩ := id CX
  obtain ⟨q1, q2, q3⟩ := q_X0_firstUseOf hts
  unfold f_X0_firstUseOf at h
  refine lv_iconst (v := (-1)) hx hb dX0_firstUseOf_0 (by decide) ?_
  refine lv_istore_n (lv' := [(2, .int (-1)), (0, .ref (B 0 ch 0)), (1, .int v1)]) hx hb dX0_firstUseOf_1 rfl hl (by decide) rfl (fun ls hl => ?_)
  refine lv_iconst (v := 0) hx hb dX0_firstUseOf_2 (by decide) ?_
  refine lv_istore_n (lv' := [(3, .int 0), (2, .int (-1)), (0, .ref (B 0 ch 0)), (1, .int v1)]) hx hb dX0_firstUseOf_3 rfl hl (by decide) rfl (fun ls hl => ?_)
  refine lv_iconst (v := 0) hx hb dX0_firstUseOf_4 (by decide) ?_
  refine lv_istore (lv' := [(4, .int 0), (3, .int 0), (2, .int (-1)), (0, .ref (B 0 ch 0)), (1, .int v1)]) hx hb dX0_firstUseOf_5 hl (by decide) rfl (fun ls hl => ?_)
  exact w_X0_firstUseOf_7 CX RT hc wk_fuel _ _ _ _ _ _ _ _ h (lv_sub hl [3, 4, 2, 1, 0] rfl) hP hS
set_option maxRecDepth 100000 in
set_option maxHeartbeats 4000000 in
theorem m_X0_firstUseOf (l : Launch) {D : va_G} {y : Nat → ClassId} {B : Nat → Nat → Nat → Nat} {Lk : Nat → Nat → Nat → Prop} (hI : wk_I B Lk) (hL : wk_L Lk) {ch : Nat} (hc : ch < 7) {v1 : Int32} {M : wk_T} {r0 : Int32} {MM : wk_T} (hf : f_X0_firstUseOf ch v1 M = some (r0, MM)) : wk_Mi l yX0_firstUseOf wsX0_firstUseOf 0 0 D y B Lk [.ref (B 0 ch 0), .int v1] M r0 MM :=
  wk_ofI (own := RX0) (bytes := cX0_firstUseOf) (maxL := 5) (ret := some .int) (by decide +kernel) rfl rfl (Or.inl rfl) (Nat.le_of_ble_eq_true rfl) hI hL (fun p e s m args below meth c ls CX RTi RTz hl hP hS => w_X0_firstUseOf_0 CX (RTi rfl) hc hf hl hP hS)
def f_X0_isCalled_59 (ch : Nat) (i2 : Nat) (M : wk_T) : Option (Int32 × wk_T) := wk_cl (f_X2_isGuessedByGap ch i2 (M 0 ch 0 7) M) (fun r1 M2 => wk_gd (r1 = 0 ∨ r1 = 1) ((some (r1, M2))))
def f_X0_isCalled_39 (ch : Nat) (i2 : Nat) (v3 : Int32) (s0 : Int32) (M : wk_T) : Option (Int32 × wk_T) := wk_gd (¬ (v3 < 0 ∨ 12 ≤ v3.toNatClampNeg)) ((if (M 0 ch 0 7) < ((M 4 ch 0 (v3.toNatClampNeg)) - s0) then (f_X0_isCalled_59 ch i2 M) else (some (1, M))))
def f_X0_isCalled (ch : Nat) (v1 : Int32) (M : wk_T) : Option (Int32 × wk_T) := wk_gd (¬ (v1 < 0 ∨ 8 ≤ v1.toNatClampNeg)) (wk_cl (f_X0_firstUseOf ch v1 M) (fun r2 M3 => wk_cl (f_X0_hasUse ch r2 M3) (fun r4 M5 => (if r4 = 0 then (f_X0_isCalled_59 ch v1.toNatClampNeg M5) else (if (M5 6 ch v1.toNatClampNeg 6) = 1 then (f_X0_isCalled_39 ch v1.toNatClampNeg r2 (M5 7 ch v1.toNatClampNeg 1) M5) else (f_X0_isCalled_39 ch v1.toNatClampNeg r2 0 M5))))))
set_option maxRecDepth 20000 in
theorem q_X0_isCalled {s : State} {args : Array Value} (hts : ∀ w ∈ wsX0_isCalled, w.before args s = true) : (Cond.fieldLink RX0 11 "WokenRooms$Chip" "rooms" "[LWokenRooms$Room;").before args s = true ∧ (Cond.fieldLink RX0 101 "WokenRooms$Room" "guess" "I").before args s = true ∧ (Cond.fieldLink RX0 115 "WokenRooms$Room" "costs" "[I").before args s = true ∧ (Cond.fieldLink RX0 24 "WokenRooms$Chip" "useTimes" "[I").before args s = true ∧ (Cond.fieldLink RX0 48 "WokenRooms$Chip" "time" "I").before args s = true := ⟨hts _ (List.mem_of_getElem? (i := 1) rfl), hts _ (List.mem_of_getElem? (i := 2) rfl), hts _ (List.mem_of_getElem? (i := 3) rfl), hts _ (List.mem_of_getElem? (i := 4) rfl), hts _ (List.mem_of_getElem? (i := 5) rfl)⟩
set_option maxRecDepth 100000 in
set_option maxHeartbeats 4000000 in
theorem w_X0_isCalled_59 {ch : Nat} {r0 : Int32} (CX : wk_X p l e R s m args below meth c cells slots Q cX0_isCalled 5 RX0 wsX0_isCalled D y B Lk A 1 24) (RT : wk_Rz p l e R s m args below meth c cells slots Q cX0_isCalled D y B Lk A r0 MM) (hc : ch < 7) {i2 : Nat} {M : wk_T} {H : Heap} {locs : List Loc} {ls : Array Slot} (hi2 : i2 < 8) (h : f_X0_isCalled_59 ch i2 M = some (r0, MM)) (hl : lv_has ls 5 [(0, .ref (B 0 ch 0)), (2, .ref (B 6 ch i2))]) (hP : wk_H D y B Lk M H) (hS : va_S A s.heap H locs) : W p l e R s m args below meth c H locs cells slots Q (F0 m 59 ls []) := by
  obtain ⟨⟨hx, hb, hml, hown, hts⟩, hK, hI, hL, hA, hfr, hlo, hcs⟩ := id CX
  obtain ⟨q1, q2, q3, q4, q5⟩ := q_X0_isCalled hts
  unfold f_X0_isCalled_59 at h
  refine lv_aload_n hx hb dX0_isCalled_59 rfl (lv_at hl 1 rfl) ?_
  refine lv_aload_n hx hb dX0_isCalled_60 rfl (lv_at hl 0 rfl) ?_
  refine wk_get (ref := "WokenRooms$Chip") (C := RX0) (T := TX0) (N := 8) (ci := 0) (v := .int (M 0 ch 0 7)) hx hb hts (fun _ h => List.mem_cons_of_mem _ (List.mem_append_left _ (List.mem_append_right _ h))) hown hK hP (wk_l0 hL hc 0 (by decide)) wk_c0 rfl 7 (by decide) q5 rfl rfl dX0_isCalled_61 ?_
  obtain ⟨r1, M2, er1, h⟩ := wk_cl_e h
  refine wk_cVi (As := [.int (M 0 ch 0 7)]) (rest := []) ⟨hx, hb, hml, hown, hts⟩ (m_X2_isGuessedByGap l hI hL hc hi2 er1) (cwV 1 hts gX0_isCalled_X2_isGuessedByGap rfl rfl rfl (by decide +kernel) ⟨Nat.le_trans (by decide) hfr, Nat.le_trans (by decide) hlo⟩) hK hP hS hA (wk_l6 hL hc hi2 6 (by decide) (by decide)) wk_c6 rfl rfl hl.1 (lv_room (Nat.le_of_ble_eq_true rfl)) hcs dX0_isCalled_64 (fun H locs hP hS => ?_)
  obtain ⟨g3, h⟩ := wk_gd_e h
  exact RT _ _ _ _ _ _ g3 h hP hS dX0_isCalled_67
set_option maxRecDepth 100000 in
set_option maxHeartbeats 4000000 in
theorem w_X0_isCalled_39 {ch : Nat} {r0 : Int32} (CX : wk_X p l e R s m args below meth c cells slots Q cX0_isCalled 5 RX0 wsX0_isCalled D y B Lk A 1 24) (RT : wk_Rz p l e R s m args below meth c cells slots Q cX0_isCalled D y B Lk A r0 MM) (hc : ch < 7) {i2 : Nat} {v3 : Int32} {s0 : Int32} {M : wk_T} {H : Heap} {locs : List Loc} {ls : Array Slot} (hi2 : i2 < 8) (h : f_X0_isCalled_39 ch i2 v3 s0 M = some (r0, MM)) (hl : lv_has ls 5 [(0, .ref (B 0 ch 0)), (2, .ref (B 6 ch i2)), (3, .int v3)]) (hP : wk_H D y B Lk M H) (hS : va_S A s.heap H locs) : W p l e R s m args below meth c H locs cells slots Q (F0 m 39 ls [.int s0]) := by
  obtain ⟨⟨hx, hb, hml, hown, hts⟩, hK, hI, hL, hA, hfr, hlo, hcs⟩ := id CX
  obtain ⟨q1, q2, q3, q4, q5⟩ := q_X0_isCalled hts
  unfold f_X0_isCalled_39 at h
  refine lv_istore (lv' := [(4, .int s0), (0, .ref (B 0 ch 0)), (2, .ref (B 6 ch i2)), (3, .int v3)]) hx hb dX0_isCalled_39 hl (by decide) rfl (fun ls hl => ?_)
  refine lv_aload_n hx hb dX0_isCalled_41 rfl (lv_at hl 1 rfl) ?_
  refine wk_get (ref := "WokenRooms$Chip") (C := RX0) (T := TX0) (N := 8) (ci := 0) (v := .ref (B 4 ch 0)) hx hb hts (fun _ h => List.mem_cons_of_mem _ (List.mem_append_left _ (List.mem_append_right _ h))) hown hK hP (wk_l0 hL hc 0 (by decide)) wk_c0 rfl 4 (by decide) q4 rfl rfl dX0_isCalled_42 ?_
  refine lv_iload_n hx hb dX0_isCalled_45 rfl (lv_at hl 3 rfl) ?_
  obtain ⟨g1, h⟩ := wk_gd_e h
  refine wk_iald (j := v3.toNatClampNeg) hx hb hK hP (wk_l0 hL hc 4 (by decide)) wk_c4 g1 rfl dX0_isCalled_46 ?_
  refine lv_iload hx hb dX0_isCalled_47 (lv_at hl 0 rfl) ?_
  refine lv_isub hx hb dX0_isCalled_49 ?_
  refine lv_aload_n hx hb dX0_isCalled_50 rfl (lv_at hl 1 rfl) ?_
  refine wk_get (ref := "WokenRooms$Chip") (C := RX0) (T := TX0) (N := 8) (ci := 0) (v := .int (M 0 ch 0 7)) hx hb hts (fun _ h => List.mem_cons_of_mem _ (List.mem_append_left _ (List.mem_append_right _ h))) hown hK hP (wk_l0 hL hc 0 (by decide)) wk_c0 rfl 7 (by decide) q5 rfl rfl dX0_isCalled_51 ?_
  refine lv_icmp_gt (tgt := 59) hx hb dX0_isCalled_54 (by decide) (fun g2 => ?_) (fun g2 => ?_)
  · have h := wk_p g2 h
    exact w_X0_isCalled_59 CX RT hc hi2 h (lv_sub hl [1, 2] rfl) hP hS
  · have h := wk_n g2 h
    refine lv_iconst (v := 1) hx hb dX0_isCalled_57 (by decide) ?_
    exact RT _ _ _ _ _ _ (Or.inr rfl) h hP hS dX0_isCalled_58
set_option maxRecDepth 100000 in
set_option maxHeartbeats 4000000 in
theorem w_X0_isCalled_0 {ch : Nat} {r0 : Int32} (CX : wk_X p l e R s m args below meth c cells slots Q cX0_isCalled 5 RX0 wsX0_isCalled D y B Lk A 1 24) (RT : wk_Rz p l e R s m args below meth c cells slots Q cX0_isCalled D y B Lk A r0 MM) (hc : ch < 7) {v1 : Int32} {M : wk_T} {H : Heap} {locs : List Loc} {ls : Array Slot} (h : f_X0_isCalled ch v1 M = some (r0, MM)) (hl : lv_has ls 5 [(0, .ref (B 0 ch 0)), (1, .int v1)]) (hP : wk_H D y B Lk M H) (hS : va_S A s.heap H locs) : W p l e R s m args below meth c H locs cells slots Q (F0 m 0 ls []) := by
  obtain ⟨⟨hx, hb, hml, hown, hts⟩, hK, hI, hL, hA, hfr, hlo, hcs⟩ := id CX
  obtain ⟨q1, q2, q3, q4, q5⟩ := q_X0_isCalled hts
  unfold f_X0_isCalled at h
  refine lv_aload_n hx hb dX0_isCalled_0 rfl (lv_at hl 0 rfl) ?_
  refine wk_get (ref := "WokenRooms$Chip") (C := RX0) (T := TX0) (N := 8) (ci := 0) (v := .ref (B 1 ch 0)) hx hb hts (fun _ h => List.mem_cons_of_mem _ (List.mem_append_left _ (List.mem_append_right _ h))) hown hK hP (wk_l0 hL hc 0 (by decide)) wk_c0 rfl 0 (by decide) q1 rfl rfl dX0_isCalled_1 ?_
  refine lv_iload_n hx hb dX0_isCalled_4 rfl (lv_at hl 1 rfl) ?_
  obtain ⟨g1, h⟩ := wk_gd_e h
  refine wk_aaldR (j := v1.toNatClampNeg) hx hb hK hP (wk_l0 hL hc 1 (by decide)) g1 rfl dX0_isCalled_5 ?_
  refine lv_astore_n (lv' := [(2, .ref (B 6 ch v1.toNatClampNeg)), (0, .ref (B 0 ch 0)), (1, .int v1)]) hx hb dX0_isCalled_6 rfl hl (by decide) rfl (fun ls hl => ?_)
  refine lv_aload_n hx hb dX0_isCalled_7 rfl (lv_at hl 1 rfl) ?_
  refine lv_iload_n hx hb dX0_isCalled_8 rfl (lv_at hl 2 rfl) ?_
  obtain ⟨r2, M3, er2, h⟩ := wk_cl_e h
  refine wk_cVi (As := [.int v1]) (rest := []) ⟨hx, hb, hml, hown, hts⟩ (m_X0_firstUseOf l hI hL hc er2) (cwV 1 hts gX0_isCalled_X0_firstUseOf rfl rfl rfl (by decide +kernel) ⟨Nat.le_trans (by decide) hfr, Nat.le_trans (by decide) hlo⟩) hK hP hS hA (wk_l0 hL hc 0 (by decide)) wk_c0 rfl rfl hl.1 (lv_room (Nat.le_of_ble_eq_true rfl)) hcs dX0_isCalled_9 (fun H locs hP hS => ?_)
  refine lv_istore_n (lv' := [(3, .int r2), (2, .ref (B 6 ch v1.toNatClampNeg)), (0, .ref (B 0 ch 0)), (1, .int v1)]) hx hb dX0_isCalled_12 rfl hl (by decide) rfl (fun ls hl => ?_)
  refine lv_aload_n hx hb dX0_isCalled_13 rfl (lv_at hl 2 rfl) ?_
  refine lv_iload_n hx hb dX0_isCalled_14 rfl (lv_at hl 0 rfl) ?_
  obtain ⟨r4, M5, er4, h⟩ := wk_cl_e h
  refine wk_cVi (As := [.int r2]) (rest := []) ⟨hx, hb, hml, hown, hts⟩ (m_X0_hasUse l hI hL hc er4) (cwV 1 hts gX0_isCalled_X0_hasUse rfl rfl rfl (by decide +kernel) ⟨Nat.le_trans (by decide) hfr, Nat.le_trans (by decide) hlo⟩) hK hP hS hA (wk_l0 hL hc 0 (by decide)) wk_c0 rfl rfl hl.1 (lv_room (Nat.le_of_ble_eq_true rfl)) hcs dX0_isCalled_15 (fun H locs hP hS => ?_)
  refine lv_if_eq (tgt := 59) hx hb dX0_isCalled_18 (by decide) (fun g6 => ?_) (fun g6 => ?_)
  · have h := wk_p g6 h
    exact w_X0_isCalled_59 CX RT hc (wk_ix g1) h (lv_sub hl [2, 1] rfl) hP hS
  · have h := wk_n g6 h
    refine lv_aload_n hx hb dX0_isCalled_21 rfl (lv_at hl 1 rfl) ?_
    refine wk_get (ref := "WokenRooms$Room") (C := RX2) (T := TX2) (N := 15) (ci := 2) (v := .int (M5 6 ch v1.toNatClampNeg 6)) hx hb hts (fun _ h => List.mem_cons_of_mem _ (List.mem_append_right _ h)) hown hK hP (wk_l6 hL hc (wk_ix g1) 6 (by decide) (by decide)) wk_c6 rfl 6 (by decide) q2 rfl rfl dX0_isCalled_22 ?_
    refine lv_iconst (v := 1) hx hb dX0_isCalled_25 (by decide) ?_
    refine lv_icmp_ne (tgt := 38) hx hb dX0_isCalled_26 (by decide) (fun g7 => ?_) (fun g7 => ?_)
    · have h := wk_n g7 h
      refine lv_iconst (v := 0) hx hb dX0_isCalled_38 (by decide) ?_
      exact w_X0_isCalled_39 CX RT hc (wk_ix g1) h (lv_sub hl [2, 1, 0] rfl) hP hS
    · have h := wk_p g7 h
      refine lv_aload_n hx hb dX0_isCalled_29 rfl (lv_at hl 1 rfl) ?_
      refine wk_get (ref := "WokenRooms$Room") (C := RX2) (T := TX2) (N := 15) (ci := 2) (v := .ref (B 7 ch v1.toNatClampNeg)) hx hb hts (fun _ h => List.mem_cons_of_mem _ (List.mem_append_right _ h)) hown hK hP (wk_l6 hL hc (wk_ix g1) 6 (by decide) (by decide)) wk_c6 rfl 0 (by decide) q3 rfl rfl dX0_isCalled_30 ?_
      refine lv_iconst (v := 1) hx hb dX0_isCalled_33 (by decide) ?_
      refine wk_iald (j := 1) hx hb hK hP (wk_l6 hL hc (wk_ix g1) 7 (by decide) (by decide)) wk_c7 (by decide) (by decide) dX0_isCalled_34 ?_
      refine lv_goto (tgt := 39) hx hb dX0_isCalled_35 (by decide) ?_
      exact w_X0_isCalled_39 CX RT hc (wk_ix g1) h (lv_sub hl [2, 1, 0] rfl) hP hS
set_option maxRecDepth 100000 in
set_option maxHeartbeats 4000000 in
theorem m_X0_isCalled (l : Launch) {D : va_G} {y : Nat → ClassId} {B : Nat → Nat → Nat → Nat} {Lk : Nat → Nat → Nat → Prop} (hI : wk_I B Lk) (hL : wk_L Lk) {ch : Nat} (hc : ch < 7) {v1 : Int32} {M : wk_T} {r0 : Int32} {MM : wk_T} (hf : f_X0_isCalled ch v1 M = some (r0, MM)) : wk_Mi l yX0_isCalled wsX0_isCalled 1 24 D y B Lk [.ref (B 0 ch 0), .int v1] M r0 MM :=
  wk_ofI (own := RX0) (bytes := cX0_isCalled) (maxL := 5) (ret := some .boolean) (by decide +kernel) rfl rfl (Or.inr rfl) (Nat.le_of_ble_eq_true rfl) hI hL (fun p e s m args below meth c ls CX RTi RTz hl hP hS => w_X0_isCalled_0 CX (RTz rfl) hc hf hl hP hS)
def f_X0_isReady (ch : Nat) (v1 : Int32) (M : wk_T) : Option (Int32 × wk_T) := wk_gd (¬ (v1 < 0 ∨ 8 ≤ v1.toNatClampNeg)) (wk_lt ((M 6 ch v1.toNatClampNeg 3)) (fun x2 => (if x2 < 0 then (some (1, M)) else (if x2 < (M 0 ch 0 1) then wk_gd (¬ (x2 < 0 ∨ 8 ≤ x2.toNatClampNeg)) ((if (M 6 ch x2.toNatClampNeg 7) = 2 then (some (1, M)) else wk_gd (¬ (x2 < 0 ∨ 8 ≤ x2.toNatClampNeg)) ((if (M 6 ch x2.toNatClampNeg 7) = 3 then (some (1, M)) else (some (0, M)))))) else (some (1, M))))))
set_option maxRecDepth 20000 in
theorem q_X0_isReady {s : State} {args : Array Value} (hts : ∀ w ∈ wsX0_isReady, w.before args s = true) : (Cond.fieldLink RX0 11 "WokenRooms$Chip" "rooms" "[LWokenRooms$Room;").before args s = true ∧ (Cond.fieldLink RX0 86 "WokenRooms$Room" "needed" "I").before args s = true ∧ (Cond.fieldLink RX0 31 "WokenRooms$Chip" "roomCount" "I").before args s = true ∧ (Cond.fieldLink RX0 65 "WokenRooms$Room" "state" "I").before args s = true := ⟨hts _ (List.mem_of_getElem? (i := 1) rfl), hts _ (List.mem_of_getElem? (i := 2) rfl), hts _ (List.mem_of_getElem? (i := 3) rfl), hts _ (List.mem_of_getElem? (i := 4) rfl)⟩
set_option maxRecDepth 100000 in
set_option maxHeartbeats 4000000 in
theorem w_X0_isReady_0 {ch : Nat} {r0 : Int32} (CX : wk_X p l e R s m args below meth c cells slots Q cX0_isReady 3 RX0 wsX0_isReady D y B Lk A 0 0) (RT : wk_Rz p l e R s m args below meth c cells slots Q cX0_isReady D y B Lk A r0 MM) (hc : ch < 7) {v1 : Int32} {M : wk_T} {H : Heap} {locs : List Loc} {ls : Array Slot} (h : f_X0_isReady ch v1 M = some (r0, MM)) (hl : lv_has ls 3 [(0, .ref (B 0 ch 0)), (1, .int v1)]) (hP : wk_H D y B Lk M H) (hS : va_S A s.heap H locs) : W p l e R s m args below meth c H locs cells slots Q (F0 m 0 ls []) := by
  obtain ⟨⟨hx, hb, hml, hown, hts⟩, hK, hI, hL, hA, hfr, hlo, hcs⟩ := id CX
  obtain ⟨q1, q2, q3, q4⟩ := q_X0_isReady hts
  unfold f_X0_isReady at h
  refine lv_aload_n hx hb dX0_isReady_0 rfl (lv_at hl 0 rfl) ?_
  refine wk_get (ref := "WokenRooms$Chip") (C := RX0) (T := TX0) (N := 8) (ci := 0) (v := .ref (B 1 ch 0)) hx hb hts (fun _ h => List.mem_cons_of_mem _ (List.mem_append_left _ (List.mem_append_right _ h))) hown hK hP (wk_l0 hL hc 0 (by decide)) wk_c0 rfl 0 (by decide) q1 rfl rfl dX0_isReady_1 ?_
  refine lv_iload_n hx hb dX0_isReady_4 rfl (lv_at hl 1 rfl) ?_
  obtain ⟨g1, h⟩ := wk_gd_e h
  refine wk_aaldR (j := v1.toNatClampNeg) hx hb hK hP (wk_l0 hL hc 1 (by decide)) g1 rfl dX0_isReady_5 ?_
  refine wk_get (ref := "WokenRooms$Room") (C := RX2) (T := TX2) (N := 15) (ci := 2) (v := .int (M 6 ch v1.toNatClampNeg 3)) hx hb hts (fun _ h => List.mem_cons_of_mem _ (List.mem_append_right _ h)) hown hK hP (wk_l6 hL hc (wk_ix g1) 6 (by decide) (by decide)) wk_c6 rfl 3 (by decide) q2 rfl rfl dX0_isReady_6 ?_
  obtain ⟨x2, ex2, h⟩ := wk_lt_e h
  refine wk_topi ex2 ?_
  refine lv_istore_n (lv' := [(2, .int x2), (0, .ref (B 0 ch 0)), (1, .int v1)]) hx hb dX0_isReady_9 rfl hl (by decide) rfl (fun ls hl => ?_)
  refine lv_iload_n hx hb dX0_isReady_10 rfl (lv_at hl 0 rfl) ?_
  refine lv_if_lt (tgt := 22) hx hb dX0_isReady_11 (by decide) (fun g3 => ?_) (fun g3 => ?_)
  · have h := wk_p g3 h
    refine lv_iconst (v := 1) hx hb dX0_isReady_22 (by decide) ?_
    exact RT _ _ _ _ _ _ (Or.inr rfl) h hP hS dX0_isReady_23
  · have h := wk_n g3 h
    refine lv_iload_n hx hb dX0_isReady_14 rfl (lv_at hl 0 rfl) ?_
    refine lv_aload_n hx hb dX0_isReady_15 rfl (lv_at hl 1 rfl) ?_
    refine wk_get (ref := "WokenRooms$Chip") (C := RX0) (T := TX0) (N := 8) (ci := 0) (v := .int (M 0 ch 0 1)) hx hb hts (fun _ h => List.mem_cons_of_mem _ (List.mem_append_left _ (List.mem_append_right _ h))) hown hK hP (wk_l0 hL hc 0 (by decide)) wk_c0 rfl 1 (by decide) q3 rfl rfl dX0_isReady_16 ?_
    refine lv_icmp_lt (tgt := 24) hx hb dX0_isReady_19 (by decide) (fun g4 => ?_) (fun g4 => ?_)
    · have h := wk_p g4 h
      refine lv_aload_n hx hb dX0_isReady_24 rfl (lv_at hl 1 rfl) ?_
      refine wk_get (ref := "WokenRooms$Chip") (C := RX0) (T := TX0) (N := 8) (ci := 0) (v := .ref (B 1 ch 0)) hx hb hts (fun _ h => List.mem_cons_of_mem _ (List.mem_append_left _ (List.mem_append_right _ h))) hown hK hP (wk_l0 hL hc 0 (by decide)) wk_c0 rfl 0 (by decide) q1 rfl rfl dX0_isReady_25 ?_
      refine lv_iload_n hx hb dX0_isReady_28 rfl (lv_at hl 0 rfl) ?_
      obtain ⟨g5, h⟩ := wk_gd_e h
      refine wk_aaldR (j := x2.toNatClampNeg) hx hb hK hP (wk_l0 hL hc 1 (by decide)) g5 rfl dX0_isReady_29 ?_
      refine wk_get (ref := "WokenRooms$Room") (C := RX2) (T := TX2) (N := 15) (ci := 2) (v := .int (M 6 ch x2.toNatClampNeg 7)) hx hb hts (fun _ h => List.mem_cons_of_mem _ (List.mem_append_right _ h)) hown hK hP (wk_l6 hL hc (wk_ix g5) 6 (by decide) (by decide)) wk_c6 rfl 7 (by decide) q4 rfl rfl dX0_isReady_30 ?_
      refine lv_iconst (v := 2) hx hb dX0_isReady_33 (by decide) ?_
      refine lv_icmp_eq (tgt := 50) hx hb dX0_isReady_34 (by decide) (fun g6 => ?_) (fun g6 => ?_)
      · have h := wk_p g6 h
        refine lv_iconst (v := 1) hx hb dX0_isReady_50 (by decide) ?_
        refine lv_goto (tgt := 55) hx hb dX0_isReady_51 (by decide) ?_
        exact RT _ _ _ _ _ _ (Or.inr rfl) h hP hS dX0_isReady_55
      · have h := wk_n g6 h
        refine lv_aload_n hx hb dX0_isReady_37 rfl (lv_at hl 1 rfl) ?_
        refine wk_get (ref := "WokenRooms$Chip") (C := RX0) (T := TX0) (N := 8) (ci := 0) (v := .ref (B 1 ch 0)) hx hb hts (fun _ h => List.mem_cons_of_mem _ (List.mem_append_left _ (List.mem_append_right _ h))) hown hK hP (wk_l0 hL hc 0 (by decide)) wk_c0 rfl 0 (by decide) q1 rfl rfl dX0_isReady_38 ?_
        refine lv_iload_n hx hb dX0_isReady_41 rfl (lv_at hl 0 rfl) ?_
        obtain ⟨g7, h⟩ := wk_gd_e h
        refine wk_aaldR (j := x2.toNatClampNeg) hx hb hK hP (wk_l0 hL hc 1 (by decide)) g7 rfl dX0_isReady_42 ?_
        refine wk_get (ref := "WokenRooms$Room") (C := RX2) (T := TX2) (N := 15) (ci := 2) (v := .int (M 6 ch x2.toNatClampNeg 7)) hx hb hts (fun _ h => List.mem_cons_of_mem _ (List.mem_append_right _ h)) hown hK hP (wk_l6 hL hc (wk_ix g7) 6 (by decide) (by decide)) wk_c6 rfl 7 (by decide) q4 rfl rfl dX0_isReady_43 ?_
        refine lv_iconst (v := 3) hx hb dX0_isReady_46 (by decide) ?_
        refine lv_icmp_ne (tgt := 54) hx hb dX0_isReady_47 (by decide) (fun g8 => ?_) (fun g8 => ?_)
        · have h := wk_n g8 h
          refine lv_iconst (v := 0) hx hb dX0_isReady_54 (by decide) ?_
          exact RT _ _ _ _ _ _ (Or.inl rfl) h hP hS dX0_isReady_55
        · have h := wk_p g8 h
          refine lv_iconst (v := 1) hx hb dX0_isReady_50 (by decide) ?_
          refine lv_goto (tgt := 55) hx hb dX0_isReady_51 (by decide) ?_
          exact RT _ _ _ _ _ _ (Or.inr rfl) h hP hS dX0_isReady_55
    · have h := wk_n g4 h
      refine lv_iconst (v := 1) hx hb dX0_isReady_22 (by decide) ?_
      exact RT _ _ _ _ _ _ (Or.inr rfl) h hP hS dX0_isReady_23
set_option maxRecDepth 100000 in
set_option maxHeartbeats 4000000 in
theorem m_X0_isReady (l : Launch) {D : va_G} {y : Nat → ClassId} {B : Nat → Nat → Nat → Nat} {Lk : Nat → Nat → Nat → Prop} (hI : wk_I B Lk) (hL : wk_L Lk) {ch : Nat} (hc : ch < 7) {v1 : Int32} {M : wk_T} {r0 : Int32} {MM : wk_T} (hf : f_X0_isReady ch v1 M = some (r0, MM)) : wk_Mi l yX0_isReady wsX0_isReady 0 0 D y B Lk [.ref (B 0 ch 0), .int v1] M r0 MM :=
  wk_ofI (own := RX0) (bytes := cX0_isReady) (maxL := 3) (ret := some .boolean) (by decide +kernel) rfl rfl (Or.inr rfl) (Nat.le_of_ble_eq_true rfl) hI hL (fun p e s m args below meth c ls CX RTi RTz hl hP hS => w_X0_isReady_0 CX (RTz rfl) hc hf hl hP hS)
def f_X0_railLetsWake_66 (ch : Nat) (k26 : Int32 → Int32 → Int32 → wk_T → Option (Int32 × wk_T)) (v2 : Int32) (v3 : Int32) (v4 : Int32) (M : wk_T) : Option (Int32 × wk_T) := wk_lt (v4 + 1) (fun x1 => (k26 v2 v3 x1 M))
def f_X0_railLetsWake_26 (ch : Nat) : Nat → Int32 → Int32 → Int32 → wk_T → Option (Int32 × wk_T)
  | 0, _, _, _, _ => none
  | n + 1, v2, v3, v4, M => (if (M 0 ch 0 1) ≤ v4 then wk_gd (¬ (v2 < 0 ∨ 2 ≤ v2.toNatClampNeg)) ((if (M 2 ch 0 (v2.toNatClampNeg)) ≤ v3 then (some (0, M)) else (some (1, M)))) else wk_gd (¬ (v4 < 0 ∨ 8 ≤ v4.toNatClampNeg)) ((if (M 6 ch v4.toNatClampNeg 4) = v2 then wk_gd (¬ (v4 < 0 ∨ 8 ≤ v4.toNatClampNeg)) ((if (M 6 ch v4.toNatClampNeg 7) = 1 then wk_lt (v3 + 1) (fun x8 => (f_X0_railLetsWake_66 ch (f_X0_railLetsWake_26 ch n) v2 x8 v4 M)) else (f_X0_railLetsWake_66 ch (f_X0_railLetsWake_26 ch n) v2 v3 v4 M))) else (f_X0_railLetsWake_66 ch (f_X0_railLetsWake_26 ch n) v2 v3 v4 M))))
def f_X0_railLetsWake (ch : Nat) (v1 : Int32) (M : wk_T) : Option (Int32 × wk_T) := wk_gd (¬ (v1 < 0 ∨ 8 ≤ v1.toNatClampNeg)) (wk_lt ((M 6 ch v1.toNatClampNeg 4)) (fun x2 => (if x2 < 0 then (some (0, M)) else (if x2 < 2 then (f_X0_railLetsWake_26 ch wk_fuel x2 0 0 M) else (some (0, M))))))
set_option maxRecDepth 20000 in
theorem q_X0_railLetsWake {s : State} {args : Array Value} (hts : ∀ w ∈ wsX0_railLetsWake, w.before args s = true) : (Cond.fieldLink RX0 11 "WokenRooms$Chip" "rooms" "[LWokenRooms$Room;").before args s = true ∧ (Cond.fieldLink RX0 89 "WokenRooms$Room" "rail" "I").before args s = true ∧ (Cond.fieldLink RX0 31 "WokenRooms$Chip" "roomCount" "I").before args s = true ∧ (Cond.fieldLink RX0 65 "WokenRooms$Room" "state" "I").before args s = true ∧ (Cond.fieldLink RX0 17 "WokenRooms$Chip" "limits" "[I").before args s = true := ⟨hts _ (List.mem_of_getElem? (i := 1) rfl), hts _ (List.mem_of_getElem? (i := 2) rfl), hts _ (List.mem_of_getElem? (i := 3) rfl), hts _ (List.mem_of_getElem? (i := 4) rfl), hts _ (List.mem_of_getElem? (i := 5) rfl)⟩
set_option maxRecDepth 100000 in
set_option maxHeartbeats 4000000 in
theorem w_X0_railLetsWake_66 {ch : Nat} {r0 : Int32} (CX : wk_X p l e R s m args below meth c cells slots Q cX0_railLetsWake 5 RX0 wsX0_railLetsWake D y B Lk A 0 0) (RT : wk_Rz p l e R s m args below meth c cells slots Q cX0_railLetsWake D y B Lk A r0 MM) (hc : ch < 7) {k26 : Int32 → Int32 → Int32 → wk_T → Option (Int32 × wk_T)} (hk26 : ∀ (v2 : Int32) (v3 : Int32) (v4 : Int32) (M : wk_T) (H : Heap) (locs : List Loc) (ls : Array Slot), k26 v2 v3 v4 M = some (r0, MM) → lv_has ls 5 [(0, .ref (B 0 ch 0)), (2, .int v2), (3, .int v3), (4, .int v4)] → wk_H D y B Lk M H → va_S A s.heap H locs → W p l e R s m args below meth c H locs cells slots Q (F0 m 26 ls [])) {v2 : Int32} {v3 : Int32} {v4 : Int32} {M : wk_T} {H : Heap} {locs : List Loc} {ls : Array Slot} (h : f_X0_railLetsWake_66 ch k26 v2 v3 v4 M = some (r0, MM)) (hl : lv_has ls 5 [(0, .ref (B 0 ch 0)), (2, .int v2), (3, .int v3), (4, .int v4)]) (hP : wk_H D y B Lk M H) (hS : va_S A s.heap H locs) : W p l e R s m args below meth c H locs cells slots Q (F0 m 66 ls []) := by
  obtain ⟨⟨hx, hb, hml, hown, hts⟩, hK, hI, hL, hA, hfr, hlo, hcs⟩ := id CX
  obtain ⟨q1, q2, q3, q4, q5⟩ := q_X0_railLetsWake hts
  unfold f_X0_railLetsWake_66 at h
  obtain ⟨x1, ex1, h⟩ := wk_lt_e h
  refine lv_iinc (v := x1) (lv' := [(4, .int x1), (0, .ref (B 0 ch 0)), (2, .int v2), (3, .int v3)]) hx hb dX0_railLetsWake_66 hl (k := 3) rfl (by rw [← ex1]; rfl) (by decide) rfl (fun ls hl => ?_)
  refine lv_goto (tgt := 26) hx hb dX0_railLetsWake_69 (by decide) ?_
  exact hk26 _ _ _ _ _ _ _ h (lv_sub hl [1, 2, 3, 0] rfl) hP hS
set_option maxRecDepth 100000 in
set_option maxHeartbeats 4000000 in
theorem w_X0_railLetsWake_26 {ch : Nat} {r0 : Int32} (CX : wk_X p l e R s m args below meth c cells slots Q cX0_railLetsWake 5 RX0 wsX0_railLetsWake D y B Lk A 0 0) (RT : wk_Rz p l e R s m args below meth c cells slots Q cX0_railLetsWake D y B Lk A r0 MM) (hc : ch < 7) : ∀ (n : Nat) (v2 : Int32) (v3 : Int32) (v4 : Int32) (M : wk_T) (H : Heap) (locs : List Loc) (ls : Array Slot), f_X0_railLetsWake_26 ch n v2 v3 v4 M = some (r0, MM) → lv_has ls 5 [(0, .ref (B 0 ch 0)), (2, .int v2), (3, .int v3), (4, .int v4)] → wk_H D y B Lk M H → va_S A s.heap H locs → W p l e R s m args below meth c H locs cells slots Q (F0 m 26 ls []) := by
  obtain ⟨⟨hx, hb, hml, hown, hts⟩, hK, hI, hL, hA, hfr, hlo, hcs⟩ := id CX
  obtain ⟨q1, q2, q3, q4, q5⟩ := q_X0_railLetsWake hts
  intro n
  induction n with
  | zero =>
    intro v2 v3 v4 M H locs ls h
    exact absurd h (by rw [f_X0_railLetsWake_26]; exact fun z => nomatch z)
  | succ n ih =>
    intro v2 v3 v4 M H locs ls h hl hP hS
    rw [f_X0_railLetsWake_26] at h
    refine lv_iload hx hb dX0_railLetsWake_26 (lv_at hl 3 rfl) ?_
    refine lv_aload_n hx hb dX0_railLetsWake_28 rfl (lv_at hl 0 rfl) ?_
    refine wk_get (ref := "WokenRooms$Chip") (C := RX0) (T := TX0) (N := 8) (ci := 0) (v := .int (M 0 ch 0 1)) hx hb hts (fun _ h => List.mem_cons_of_mem _ (List.mem_append_left _ (List.mem_append_right _ h))) hown hK hP (wk_l0 hL hc 0 (by decide)) wk_c0 rfl 1 (by decide) q3 rfl rfl dX0_railLetsWake_29 ?_
    refine lv_icmp_ge (tgt := 72) hx hb dX0_railLetsWake_32 (by decide) (fun g1 => ?_) (fun g1 => ?_)
    · have h := wk_p g1 h
      refine lv_iload_n hx hb dX0_railLetsWake_72 rfl (lv_at hl 2 rfl) ?_
      refine lv_aload_n hx hb dX0_railLetsWake_73 rfl (lv_at hl 0 rfl) ?_
      refine wk_get (ref := "WokenRooms$Chip") (C := RX0) (T := TX0) (N := 8) (ci := 0) (v := .ref (B 2 ch 0)) hx hb hts (fun _ h => List.mem_cons_of_mem _ (List.mem_append_left _ (List.mem_append_right _ h))) hown hK hP (wk_l0 hL hc 0 (by decide)) wk_c0 rfl 2 (by decide) q5 rfl rfl dX0_railLetsWake_74 ?_
      refine lv_iload_n hx hb dX0_railLetsWake_77 rfl (lv_at hl 1 rfl) ?_
      obtain ⟨g2, h⟩ := wk_gd_e h
      refine wk_iald (j := v2.toNatClampNeg) hx hb hK hP (wk_l0 hL hc 2 (by decide)) wk_c2 g2 rfl dX0_railLetsWake_78 ?_
      refine lv_icmp_ge (tgt := 86) hx hb dX0_railLetsWake_79 (by decide) (fun g3 => ?_) (fun g3 => ?_)
      · have h := wk_p g3 h
        refine lv_iconst (v := 0) hx hb dX0_railLetsWake_86 (by decide) ?_
        exact RT _ _ _ _ _ _ (Or.inl rfl) h hP hS dX0_railLetsWake_87
      · have h := wk_n g3 h
        refine lv_iconst (v := 1) hx hb dX0_railLetsWake_82 (by decide) ?_
        refine lv_goto (tgt := 87) hx hb dX0_railLetsWake_83 (by decide) ?_
        exact RT _ _ _ _ _ _ (Or.inr rfl) h hP hS dX0_railLetsWake_87
    · have h := wk_n g1 h
      refine lv_aload_n hx hb dX0_railLetsWake_35 rfl (lv_at hl 0 rfl) ?_
      refine wk_get (ref := "WokenRooms$Chip") (C := RX0) (T := TX0) (N := 8) (ci := 0) (v := .ref (B 1 ch 0)) hx hb hts (fun _ h => List.mem_cons_of_mem _ (List.mem_append_left _ (List.mem_append_right _ h))) hown hK hP (wk_l0 hL hc 0 (by decide)) wk_c0 rfl 0 (by decide) q1 rfl rfl dX0_railLetsWake_36 ?_
      refine lv_iload hx hb dX0_railLetsWake_39 (lv_at hl 3 rfl) ?_
      obtain ⟨g4, h⟩ := wk_gd_e h
      refine wk_aaldR (j := v4.toNatClampNeg) hx hb hK hP (wk_l0 hL hc 1 (by decide)) g4 rfl dX0_railLetsWake_41 ?_
      refine wk_get (ref := "WokenRooms$Room") (C := RX2) (T := TX2) (N := 15) (ci := 2) (v := .int (M 6 ch v4.toNatClampNeg 4)) hx hb hts (fun _ h => List.mem_cons_of_mem _ (List.mem_append_right _ h)) hown hK hP (wk_l6 hL hc (wk_ix g4) 6 (by decide) (by decide)) wk_c6 rfl 4 (by decide) q2 rfl rfl dX0_railLetsWake_42 ?_
      refine lv_iload_n hx hb dX0_railLetsWake_45 rfl (lv_at hl 1 rfl) ?_
      refine lv_icmp_ne (tgt := 66) hx hb dX0_railLetsWake_46 (by decide) (fun g5 => ?_) (fun g5 => ?_)
      · have h := wk_n g5 h
        exact w_X0_railLetsWake_66 CX RT hc ih h (lv_sub hl [0, 1, 2, 3] rfl) hP hS
      · have h := wk_p g5 h
        refine lv_aload_n hx hb dX0_railLetsWake_49 rfl (lv_at hl 0 rfl) ?_
        refine wk_get (ref := "WokenRooms$Chip") (C := RX0) (T := TX0) (N := 8) (ci := 0) (v := .ref (B 1 ch 0)) hx hb hts (fun _ h => List.mem_cons_of_mem _ (List.mem_append_left _ (List.mem_append_right _ h))) hown hK hP (wk_l0 hL hc 0 (by decide)) wk_c0 rfl 0 (by decide) q1 rfl rfl dX0_railLetsWake_50 ?_
        refine lv_iload hx hb dX0_railLetsWake_53 (lv_at hl 3 rfl) ?_
        obtain ⟨g6, h⟩ := wk_gd_e h
        refine wk_aaldR (j := v4.toNatClampNeg) hx hb hK hP (wk_l0 hL hc 1 (by decide)) g6 rfl dX0_railLetsWake_55 ?_
        refine wk_get (ref := "WokenRooms$Room") (C := RX2) (T := TX2) (N := 15) (ci := 2) (v := .int (M 6 ch v4.toNatClampNeg 7)) hx hb hts (fun _ h => List.mem_cons_of_mem _ (List.mem_append_right _ h)) hown hK hP (wk_l6 hL hc (wk_ix g6) 6 (by decide) (by decide)) wk_c6 rfl 7 (by decide) q4 rfl rfl dX0_railLetsWake_56 ?_
        refine lv_iconst (v := 1) hx hb dX0_railLetsWake_59 (by decide) ?_
        refine lv_icmp_ne (tgt := 66) hx hb dX0_railLetsWake_60 (by decide) (fun g7 => ?_) (fun g7 => ?_)
        · have h := wk_n g7 h
          exact w_X0_railLetsWake_66 CX RT hc ih h (lv_sub hl [0, 1, 2, 3] rfl) hP hS
        · have h := wk_p g7 h
          obtain ⟨x8, ex8, h⟩ := wk_lt_e h
          refine lv_iinc (v := x8) (lv' := [(3, .int x8), (0, .ref (B 0 ch 0)), (2, .int v2), (4, .int v4)]) hx hb dX0_railLetsWake_63 hl (k := 2) rfl (by rw [← ex8]; rfl) (by decide) rfl (fun ls hl => ?_)
          exact w_X0_railLetsWake_66 CX RT hc ih h (lv_sub hl [1, 2, 0, 3] rfl) hP hS
set_option maxRecDepth 100000 in
set_option maxHeartbeats 4000000 in
theorem w_X0_railLetsWake_0 {ch : Nat} {r0 : Int32} (CX : wk_X p l e R s m args below meth c cells slots Q cX0_railLetsWake 5 RX0 wsX0_railLetsWake D y B Lk A 0 0) (RT : wk_Rz p l e R s m args below meth c cells slots Q cX0_railLetsWake D y B Lk A r0 MM) (hc : ch < 7) {v1 : Int32} {M : wk_T} {H : Heap} {locs : List Loc} {ls : Array Slot} (h : f_X0_railLetsWake ch v1 M = some (r0, MM)) (hl : lv_has ls 5 [(0, .ref (B 0 ch 0)), (1, .int v1)]) (hP : wk_H D y B Lk M H) (hS : va_S A s.heap H locs) : W p l e R s m args below meth c H locs cells slots Q (F0 m 0 ls []) := by
  obtain ⟨⟨hx, hb, hml, hown, hts⟩, hK, hI, hL, hA, hfr, hlo, hcs⟩ := id CX
  obtain ⟨q1, q2, q3, q4, q5⟩ := q_X0_railLetsWake hts
  unfold f_X0_railLetsWake at h
  refine lv_aload_n hx hb dX0_railLetsWake_0 rfl (lv_at hl 0 rfl) ?_
  refine wk_get (ref := "WokenRooms$Chip") (C := RX0) (T := TX0) (N := 8) (ci := 0) (v := .ref (B 1 ch 0)) hx hb hts (fun _ h => List.mem_cons_of_mem _ (List.mem_append_left _ (List.mem_append_right _ h))) hown hK hP (wk_l0 hL hc 0 (by decide)) wk_c0 rfl 0 (by decide) q1 rfl rfl dX0_railLetsWake_1 ?_
  refine lv_iload_n hx hb dX0_railLetsWake_4 rfl (lv_at hl 1 rfl) ?_
  obtain ⟨g1, h⟩ := wk_gd_e h
  refine wk_aaldR (j := v1.toNatClampNeg) hx hb hK hP (wk_l0 hL hc 1 (by decide)) g1 rfl dX0_railLetsWake_5 ?_
  refine wk_get (ref := "WokenRooms$Room") (C := RX2) (T := TX2) (N := 15) (ci := 2) (v := .int (M 6 ch v1.toNatClampNeg 4)) hx hb hts (fun _ h => List.mem_cons_of_mem _ (List.mem_append_right _ h)) hown hK hP (wk_l6 hL hc (wk_ix g1) 6 (by decide) (by decide)) wk_c6 rfl 4 (by decide) q2 rfl rfl dX0_railLetsWake_6 ?_
  obtain ⟨x2, ex2, h⟩ := wk_lt_e h
  refine wk_topi ex2 ?_
  refine lv_istore_n (lv' := [(2, .int x2), (0, .ref (B 0 ch 0)), (1, .int v1)]) hx hb dX0_railLetsWake_9 rfl hl (by decide) rfl (fun ls hl => ?_)
  refine lv_iload_n hx hb dX0_railLetsWake_10 rfl (lv_at hl 0 rfl) ?_
  refine lv_if_lt (tgt := 19) hx hb dX0_railLetsWake_11 (by decide) (fun g3 => ?_) (fun g3 => ?_)
  · have h := wk_p g3 h
    refine lv_iconst (v := 0) hx hb dX0_railLetsWake_19 (by decide) ?_
    exact RT _ _ _ _ _ _ (Or.inl rfl) h hP hS dX0_railLetsWake_20
  · have h := wk_n g3 h
    refine lv_iload_n hx hb dX0_railLetsWake_14 rfl (lv_at hl 0 rfl) ?_
    refine lv_iconst (v := 2) hx hb dX0_railLetsWake_15 (by decide) ?_
    refine lv_icmp_lt (tgt := 21) hx hb dX0_railLetsWake_16 (by decide) (fun g4 => ?_) (fun g4 => ?_)
    · have h := wk_p g4 h
      refine lv_iconst (v := 0) hx hb dX0_railLetsWake_21 (by decide) ?_
      refine lv_istore_n (lv' := [(3, .int 0), (2, .int x2), (0, .ref (B 0 ch 0)), (1, .int v1)]) hx hb dX0_railLetsWake_22 rfl hl (by decide) rfl (fun ls hl => ?_)
      refine lv_iconst (v := 0) hx hb dX0_railLetsWake_23 (by decide) ?_
      refine lv_istore (lv' := [(4, .int 0), (3, .int 0), (2, .int x2), (0, .ref (B 0 ch 0)), (1, .int v1)]) hx hb dX0_railLetsWake_24 hl (by decide) rfl (fun ls hl => ?_)
      exact w_X0_railLetsWake_26 CX RT hc wk_fuel _ _ _ _ _ _ _ h (lv_sub hl [3, 2, 1, 0] rfl) hP hS
    · have h := wk_n g4 h
      refine lv_iconst (v := 0) hx hb dX0_railLetsWake_19 (by decide) ?_
      exact RT _ _ _ _ _ _ (Or.inl rfl) h hP hS dX0_railLetsWake_20
set_option maxRecDepth 100000 in
set_option maxHeartbeats 4000000 in
theorem m_X0_railLetsWake (l : Launch) {D : va_G} {y : Nat → ClassId} {B : Nat → Nat → Nat → Nat} {Lk : Nat → Nat → Nat → Prop} (hI : wk_I B Lk) (hL : wk_L Lk) {ch : Nat} (hc : ch < 7) {v1 : Int32} {M : wk_T} {r0 : Int32} {MM : wk_T} (hf : f_X0_railLetsWake ch v1 M = some (r0, MM)) : wk_Mi l yX0_railLetsWake wsX0_railLetsWake 0 0 D y B Lk [.ref (B 0 ch 0), .int v1] M r0 MM :=
  wk_ofI (own := RX0) (bytes := cX0_railLetsWake) (maxL := 5) (ret := some .boolean) (by decide +kernel) rfl rfl (Or.inr rfl) (Nat.le_of_ble_eq_true rfl) hI hL (fun p e s m args below meth c ls CX RTi RTz hl hP hS => w_X0_railLetsWake_0 CX (RTz rfl) hc hf hl hP hS)
def f_X0_hasDependentsUp_37 (ch : Nat) (k2 : Int32 → Int32 → wk_T → Option (Int32 × wk_T)) (v1 : Int32) (v2 : Int32) (M : wk_T) : Option (Int32 × wk_T) := wk_lt (v2 + 1) (fun x1 => (k2 v1 x1 M))
def f_X0_hasDependentsUp_2 (ch : Nat) : Nat → Int32 → Int32 → wk_T → Option (Int32 × wk_T)
  | 0, _, _, _ => none
  | n + 1, v1, v2, M => (if (M 0 ch 0 1) ≤ v2 then (some (0, M)) else wk_gd (¬ (v2 < 0 ∨ 8 ≤ v2.toNatClampNeg)) ((if (M 6 ch v2.toNatClampNeg 3) = v1 then wk_gd (¬ (v2 < 0 ∨ 8 ≤ v2.toNatClampNeg)) ((if (M 6 ch v2.toNatClampNeg 7) = 0 then (f_X0_hasDependentsUp_37 ch (f_X0_hasDependentsUp_2 ch n) v1 v2 M) else (some (1, M)))) else (f_X0_hasDependentsUp_37 ch (f_X0_hasDependentsUp_2 ch n) v1 v2 M))))
def f_X0_hasDependentsUp (ch : Nat) (v1 : Int32) (M : wk_T) : Option (Int32 × wk_T) := (f_X0_hasDependentsUp_2 ch wk_fuel v1 0 M)
set_option maxRecDepth 20000 in
theorem q_X0_hasDependentsUp {s : State} {args : Array Value} (hts : ∀ w ∈ wsX0_hasDependentsUp, w.before args s = true) : (Cond.fieldLink RX0 31 "WokenRooms$Chip" "roomCount" "I").before args s = true ∧ (Cond.fieldLink RX0 11 "WokenRooms$Chip" "rooms" "[LWokenRooms$Room;").before args s = true ∧ (Cond.fieldLink RX0 86 "WokenRooms$Room" "needed" "I").before args s = true ∧ (Cond.fieldLink RX0 65 "WokenRooms$Room" "state" "I").before args s = true := ⟨hts _ (List.mem_of_getElem? (i := 1) rfl), hts _ (List.mem_of_getElem? (i := 2) rfl), hts _ (List.mem_of_getElem? (i := 3) rfl), hts _ (List.mem_of_getElem? (i := 4) rfl)⟩
set_option maxRecDepth 100000 in
set_option maxHeartbeats 4000000 in
theorem w_X0_hasDependentsUp_37 {ch : Nat} {r0 : Int32} (CX : wk_X p l e R s m args below meth c cells slots Q cX0_hasDependentsUp 3 RX0 wsX0_hasDependentsUp D y B Lk A 0 0) (RT : wk_Rz p l e R s m args below meth c cells slots Q cX0_hasDependentsUp D y B Lk A r0 MM) (hc : ch < 7) {k2 : Int32 → Int32 → wk_T → Option (Int32 × wk_T)} (hk2 : ∀ (v1 : Int32) (v2 : Int32) (M : wk_T) (H : Heap) (locs : List Loc) (ls : Array Slot), k2 v1 v2 M = some (r0, MM) → lv_has ls 3 [(0, .ref (B 0 ch 0)), (1, .int v1), (2, .int v2)] → wk_H D y B Lk M H → va_S A s.heap H locs → W p l e R s m args below meth c H locs cells slots Q (F0 m 2 ls [])) {v1 : Int32} {v2 : Int32} {M : wk_T} {H : Heap} {locs : List Loc} {ls : Array Slot} (h : f_X0_hasDependentsUp_37 ch k2 v1 v2 M = some (r0, MM)) (hl : lv_has ls 3 [(0, .ref (B 0 ch 0)), (1, .int v1), (2, .int v2)]) (hP : wk_H D y B Lk M H) (hS : va_S A s.heap H locs) : W p l e R s m args below meth c H locs cells slots Q (F0 m 37 ls []) := by
  obtain ⟨⟨hx, hb, hml, hown, hts⟩, hK, hI, hL, hA, hfr, hlo, hcs⟩ := id CX
  obtain ⟨q1, q2, q3, q4⟩ := q_X0_hasDependentsUp hts
  unfold f_X0_hasDependentsUp_37 at h
  obtain ⟨x1, ex1, h⟩ := wk_lt_e h
  refine lv_iinc (v := x1) (lv' := [(2, .int x1), (0, .ref (B 0 ch 0)), (1, .int v1)]) hx hb dX0_hasDependentsUp_37 hl (k := 2) rfl (by rw [← ex1]; rfl) (by decide) rfl (fun ls hl => ?_)
  refine lv_goto (tgt := 2) hx hb dX0_hasDependentsUp_40 (by decide) ?_
  exact hk2 _ _ _ _ _ _ h (lv_sub hl [1, 2, 0] rfl) hP hS
set_option maxRecDepth 100000 in
set_option maxHeartbeats 4000000 in
theorem w_X0_hasDependentsUp_2 {ch : Nat} {r0 : Int32} (CX : wk_X p l e R s m args below meth c cells slots Q cX0_hasDependentsUp 3 RX0 wsX0_hasDependentsUp D y B Lk A 0 0) (RT : wk_Rz p l e R s m args below meth c cells slots Q cX0_hasDependentsUp D y B Lk A r0 MM) (hc : ch < 7) : ∀ (n : Nat) (v1 : Int32) (v2 : Int32) (M : wk_T) (H : Heap) (locs : List Loc) (ls : Array Slot), f_X0_hasDependentsUp_2 ch n v1 v2 M = some (r0, MM) → lv_has ls 3 [(0, .ref (B 0 ch 0)), (1, .int v1), (2, .int v2)] → wk_H D y B Lk M H → va_S A s.heap H locs → W p l e R s m args below meth c H locs cells slots Q (F0 m 2 ls []) := by
  obtain ⟨⟨hx, hb, hml, hown, hts⟩, hK, hI, hL, hA, hfr, hlo, hcs⟩ := id CX
  obtain ⟨q1, q2, q3, q4⟩ := q_X0_hasDependentsUp hts
  intro n
  induction n with
  | zero =>
    intro v1 v2 M H locs ls h
    exact absurd h (by rw [f_X0_hasDependentsUp_2]; exact fun z => nomatch z)
  | succ n ih =>
    intro v1 v2 M H locs ls h hl hP hS
    rw [f_X0_hasDependentsUp_2] at h
    refine lv_iload_n hx hb dX0_hasDependentsUp_2 rfl (lv_at hl 2 rfl) ?_
    refine lv_aload_n hx hb dX0_hasDependentsUp_3 rfl (lv_at hl 0 rfl) ?_
    refine wk_get (ref := "WokenRooms$Chip") (C := RX0) (T := TX0) (N := 8) (ci := 0) (v := .int (M 0 ch 0 1)) hx hb hts (fun _ h => List.mem_cons_of_mem _ (List.mem_append_left _ (List.mem_append_right _ h))) hown hK hP (wk_l0 hL hc 0 (by decide)) wk_c0 rfl 1 (by decide) q1 rfl rfl dX0_hasDependentsUp_4 ?_
    refine lv_icmp_ge (tgt := 43) hx hb dX0_hasDependentsUp_7 (by decide) (fun g1 => ?_) (fun g1 => ?_)
    · have h := wk_p g1 h
      refine lv_iconst (v := 0) hx hb dX0_hasDependentsUp_43 (by decide) ?_
      exact RT _ _ _ _ _ _ (Or.inl rfl) h hP hS dX0_hasDependentsUp_44
    · have h := wk_n g1 h
      refine lv_aload_n hx hb dX0_hasDependentsUp_10 rfl (lv_at hl 0 rfl) ?_
      refine wk_get (ref := "WokenRooms$Chip") (C := RX0) (T := TX0) (N := 8) (ci := 0) (v := .ref (B 1 ch 0)) hx hb hts (fun _ h => List.mem_cons_of_mem _ (List.mem_append_left _ (List.mem_append_right _ h))) hown hK hP (wk_l0 hL hc 0 (by decide)) wk_c0 rfl 0 (by decide) q2 rfl rfl dX0_hasDependentsUp_11 ?_
      refine lv_iload_n hx hb dX0_hasDependentsUp_14 rfl (lv_at hl 2 rfl) ?_
      obtain ⟨g2, h⟩ := wk_gd_e h
      refine wk_aaldR (j := v2.toNatClampNeg) hx hb hK hP (wk_l0 hL hc 1 (by decide)) g2 rfl dX0_hasDependentsUp_15 ?_
      refine wk_get (ref := "WokenRooms$Room") (C := RX2) (T := TX2) (N := 15) (ci := 2) (v := .int (M 6 ch v2.toNatClampNeg 3)) hx hb hts (fun _ h => List.mem_cons_of_mem _ (List.mem_append_right _ h)) hown hK hP (wk_l6 hL hc (wk_ix g2) 6 (by decide) (by decide)) wk_c6 rfl 3 (by decide) q3 rfl rfl dX0_hasDependentsUp_16 ?_
      refine lv_iload_n hx hb dX0_hasDependentsUp_19 rfl (lv_at hl 1 rfl) ?_
      refine lv_icmp_ne (tgt := 37) hx hb dX0_hasDependentsUp_20 (by decide) (fun g3 => ?_) (fun g3 => ?_)
      · have h := wk_n g3 h
        exact w_X0_hasDependentsUp_37 CX RT hc ih h (lv_sub hl [0, 1, 2] rfl) hP hS
      · have h := wk_p g3 h
        refine lv_aload_n hx hb dX0_hasDependentsUp_23 rfl (lv_at hl 0 rfl) ?_
        refine wk_get (ref := "WokenRooms$Chip") (C := RX0) (T := TX0) (N := 8) (ci := 0) (v := .ref (B 1 ch 0)) hx hb hts (fun _ h => List.mem_cons_of_mem _ (List.mem_append_left _ (List.mem_append_right _ h))) hown hK hP (wk_l0 hL hc 0 (by decide)) wk_c0 rfl 0 (by decide) q2 rfl rfl dX0_hasDependentsUp_24 ?_
        refine lv_iload_n hx hb dX0_hasDependentsUp_27 rfl (lv_at hl 2 rfl) ?_
        obtain ⟨g4, h⟩ := wk_gd_e h
        refine wk_aaldR (j := v2.toNatClampNeg) hx hb hK hP (wk_l0 hL hc 1 (by decide)) g4 rfl dX0_hasDependentsUp_28 ?_
        refine wk_get (ref := "WokenRooms$Room") (C := RX2) (T := TX2) (N := 15) (ci := 2) (v := .int (M 6 ch v2.toNatClampNeg 7)) hx hb hts (fun _ h => List.mem_cons_of_mem _ (List.mem_append_right _ h)) hown hK hP (wk_l6 hL hc (wk_ix g4) 6 (by decide) (by decide)) wk_c6 rfl 7 (by decide) q4 rfl rfl dX0_hasDependentsUp_29 ?_
        refine lv_if_eq (tgt := 37) hx hb dX0_hasDependentsUp_32 (by decide) (fun g5 => ?_) (fun g5 => ?_)
        · have h := wk_p g5 h
          exact w_X0_hasDependentsUp_37 CX RT hc ih h (lv_sub hl [0, 1, 2] rfl) hP hS
        · have h := wk_n g5 h
          refine lv_iconst (v := 1) hx hb dX0_hasDependentsUp_35 (by decide) ?_
          exact RT _ _ _ _ _ _ (Or.inr rfl) h hP hS dX0_hasDependentsUp_36
set_option maxRecDepth 100000 in
set_option maxHeartbeats 4000000 in
theorem w_X0_hasDependentsUp_0 {ch : Nat} {r0 : Int32} (CX : wk_X p l e R s m args below meth c cells slots Q cX0_hasDependentsUp 3 RX0 wsX0_hasDependentsUp D y B Lk A 0 0) (RT : wk_Rz p l e R s m args below meth c cells slots Q cX0_hasDependentsUp D y B Lk A r0 MM) (hc : ch < 7) {v1 : Int32} {M : wk_T} {H : Heap} {locs : List Loc} {ls : Array Slot} (h : f_X0_hasDependentsUp ch v1 M = some (r0, MM)) (hl : lv_has ls 3 [(0, .ref (B 0 ch 0)), (1, .int v1)]) (hP : wk_H D y B Lk M H) (hS : va_S A s.heap H locs) : W p l e R s m args below meth c H locs cells slots Q (F0 m 0 ls []) := by
  obtain ⟨⟨hx, hb, hml, hown, hts⟩, hK, hI, hL, hA, hfr, hlo, hcs⟩ := id CX
  obtain ⟨q1, q2, q3, q4⟩ := q_X0_hasDependentsUp hts
  unfold f_X0_hasDependentsUp at h
  refine lv_iconst (v := 0) hx hb dX0_hasDependentsUp_0 (by decide) ?_
  refine lv_istore_n (lv' := [(2, .int 0), (0, .ref (B 0 ch 0)), (1, .int v1)]) hx hb dX0_hasDependentsUp_1 rfl hl (by decide) rfl (fun ls hl => ?_)
  exact w_X0_hasDependentsUp_2 CX RT hc wk_fuel _ _ _ _ _ _ h (lv_sub hl [1, 2, 0] rfl) hP hS
set_option maxRecDepth 100000 in
set_option maxHeartbeats 4000000 in
theorem m_X0_hasDependentsUp (l : Launch) {D : va_G} {y : Nat → ClassId} {B : Nat → Nat → Nat → Nat} {Lk : Nat → Nat → Nat → Prop} (hI : wk_I B Lk) (hL : wk_L Lk) {ch : Nat} (hc : ch < 7) {v1 : Int32} {M : wk_T} {r0 : Int32} {MM : wk_T} (hf : f_X0_hasDependentsUp ch v1 M = some (r0, MM)) : wk_Mi l yX0_hasDependentsUp wsX0_hasDependentsUp 0 0 D y B Lk [.ref (B 0 ch 0), .int v1] M r0 MM :=
  wk_ofI (own := RX0) (bytes := cX0_hasDependentsUp) (maxL := 3) (ret := some .boolean) (by decide +kernel) rfl rfl (Or.inr rfl) (Nat.le_of_ble_eq_true rfl) hI hL (fun p e s m args below meth c ls CX RTi RTz hl hP hS => w_X0_hasDependentsUp_0 CX (RTz rfl) hc hf hl hP hS)
def f_X0_wakeRoom (ch : Nat) (v1 : Int32) (M : wk_T) : Option (Int32 × wk_T) := wk_cl (f_X0_hasRoom ch v1 M) (fun r1 M2 => (if r1 = 0 then (some ((-1), M2)) else wk_gd (¬ (v1 < 0 ∨ 8 ≤ v1.toNatClampNeg)) ((if (M2 6 ch v1.toNatClampNeg 7) = 0 then wk_cl (f_X0_isReady ch v1 M2) (fun r6 M7 => (if r6 = 0 then (some ((-2), M7)) else wk_cl (f_X0_railLetsWake ch v1 M7) (fun r9 M10 => (if r9 = 0 then (some ((-2), M10)) else wk_cl (f_X2_startWaking ch v1.toNatClampNeg M10) (fun _ M13 => (some ((M13 7 ch v1.toNatClampNeg 1), M13))))))) else (some ((-2), M2))))))
set_option maxRecDepth 20000 in
theorem q_X0_wakeRoom {s : State} {args : Array Value} (hts : ∀ w ∈ wsX0_wakeRoom, w.before args s = true) : (Cond.fieldLink RX0 11 "WokenRooms$Chip" "rooms" "[LWokenRooms$Room;").before args s = true ∧ (Cond.fieldLink RX0 65 "WokenRooms$Room" "state" "I").before args s = true ∧ (Cond.fieldLink RX0 115 "WokenRooms$Room" "costs" "[I").before args s = true := ⟨hts _ (List.mem_of_getElem? (i := 1) rfl), hts _ (List.mem_of_getElem? (i := 2) rfl), hts _ (List.mem_of_getElem? (i := 3) rfl)⟩
set_option maxRecDepth 100000 in
set_option maxHeartbeats 4000000 in
theorem w_X0_wakeRoom_0 {ch : Nat} {r0 : Int32} (CX : wk_X p l e R s m args below meth c cells slots Q cX0_wakeRoom 3 RX0 wsX0_wakeRoom D y B Lk A 1 24) (RT : wk_Ri p l e R s m args below meth c cells slots Q cX0_wakeRoom D y B Lk A r0 MM) (hc : ch < 7) {v1 : Int32} {M : wk_T} {H : Heap} {locs : List Loc} {ls : Array Slot} (h : f_X0_wakeRoom ch v1 M = some (r0, MM)) (hl : lv_has ls 3 [(0, .ref (B 0 ch 0)), (1, .int v1)]) (hP : wk_H D y B Lk M H) (hS : va_S A s.heap H locs) : W p l e R s m args below meth c H locs cells slots Q (F0 m 0 ls []) := by
  obtain ⟨⟨hx, hb, hml, hown, hts⟩, hK, hI, hL, hA, hfr, hlo, hcs⟩ := id CX
  obtain ⟨q1, q2, q3⟩ := q_X0_wakeRoom hts
  unfold f_X0_wakeRoom at h
  refine lv_aload_n hx hb dX0_wakeRoom_0 rfl (lv_at hl 0 rfl) ?_
  refine lv_iload_n hx hb dX0_wakeRoom_1 rfl (lv_at hl 1 rfl) ?_
  obtain ⟨r1, M2, er1, h⟩ := wk_cl_e h
  refine wk_cVi (As := [.int v1]) (rest := []) ⟨hx, hb, hml, hown, hts⟩ (m_X0_hasRoom l hI hL hc er1) (cwV 1 hts gX0_wakeRoom_X0_hasRoom rfl rfl rfl (by decide +kernel) ⟨Nat.le_trans (by decide) hfr, Nat.le_trans (by decide) hlo⟩) hK hP hS hA (wk_l0 hL hc 0 (by decide)) wk_c0 rfl rfl hl.1 (lv_room (Nat.le_of_ble_eq_true rfl)) hcs dX0_wakeRoom_2 (fun H locs hP hS => ?_)
  refine lv_if_ne (tgt := 10) hx hb dX0_wakeRoom_5 (by decide) (fun g3 => ?_) (fun g3 => ?_)
  · have h := wk_n g3 h
    refine lv_aload_n hx hb dX0_wakeRoom_10 rfl (lv_at hl 0 rfl) ?_
    refine wk_get (ref := "WokenRooms$Chip") (C := RX0) (T := TX0) (N := 8) (ci := 0) (v := .ref (B 1 ch 0)) hx hb hts (fun _ h => List.mem_cons_of_mem _ (List.mem_append_left _ (List.mem_append_right _ h))) hown hK hP (wk_l0 hL hc 0 (by decide)) wk_c0 rfl 0 (by decide) q1 rfl rfl dX0_wakeRoom_11 ?_
    refine lv_iload_n hx hb dX0_wakeRoom_14 rfl (lv_at hl 1 rfl) ?_
    obtain ⟨g4, h⟩ := wk_gd_e h
    refine wk_aaldR (j := v1.toNatClampNeg) hx hb hK hP (wk_l0 hL hc 1 (by decide)) g4 rfl dX0_wakeRoom_15 ?_
    refine lv_astore_n (lv' := [(2, .ref (B 6 ch v1.toNatClampNeg)), (0, .ref (B 0 ch 0)), (1, .int v1)]) hx hb dX0_wakeRoom_16 rfl hl (by decide) rfl (fun ls hl => ?_)
    refine lv_aload_n hx hb dX0_wakeRoom_17 rfl (lv_at hl 0 rfl) ?_
    refine wk_get (ref := "WokenRooms$Room") (C := RX2) (T := TX2) (N := 15) (ci := 2) (v := .int (M2 6 ch v1.toNatClampNeg 7)) hx hb hts (fun _ h => List.mem_cons_of_mem _ (List.mem_append_right _ h)) hown hK hP (wk_l6 hL hc (wk_ix g4) 6 (by decide) (by decide)) wk_c6 rfl 7 (by decide) q2 rfl rfl dX0_wakeRoom_18 ?_
    refine lv_if_ne (tgt := 40) hx hb dX0_wakeRoom_21 (by decide) (fun g5 => ?_) (fun g5 => ?_)
    · have h := wk_n g5 h
      refine lv_bipush (v := (-2)) hx hb dX0_wakeRoom_40 (by decide) ?_
      exact RT _ _ _ _ _ _ h hP hS dX0_wakeRoom_42
    · have h := wk_p g5 h
      refine lv_aload_n hx hb dX0_wakeRoom_24 rfl (lv_at hl 1 rfl) ?_
      refine lv_iload_n hx hb dX0_wakeRoom_25 rfl (lv_at hl 2 rfl) ?_
      obtain ⟨r6, M7, er6, h⟩ := wk_cl_e h
      refine wk_cVi (As := [.int v1]) (rest := []) ⟨hx, hb, hml, hown, hts⟩ (m_X0_isReady l hI hL hc er6) (cwV 1 hts gX0_wakeRoom_X0_isReady rfl rfl rfl (by decide +kernel) ⟨Nat.le_trans (by decide) hfr, Nat.le_trans (by decide) hlo⟩) hK hP hS hA (wk_l0 hL hc 0 (by decide)) wk_c0 rfl rfl hl.1 (lv_room (Nat.le_of_ble_eq_true rfl)) hcs dX0_wakeRoom_26 (fun H locs hP hS => ?_)
      refine lv_if_eq (tgt := 40) hx hb dX0_wakeRoom_29 (by decide) (fun g8 => ?_) (fun g8 => ?_)
      · have h := wk_p g8 h
        refine lv_bipush (v := (-2)) hx hb dX0_wakeRoom_40 (by decide) ?_
        exact RT _ _ _ _ _ _ h hP hS dX0_wakeRoom_42
      · have h := wk_n g8 h
        refine lv_aload_n hx hb dX0_wakeRoom_32 rfl (lv_at hl 1 rfl) ?_
        refine lv_iload_n hx hb dX0_wakeRoom_33 rfl (lv_at hl 2 rfl) ?_
        obtain ⟨r9, M10, er9, h⟩ := wk_cl_e h
        refine wk_cVi (As := [.int v1]) (rest := []) ⟨hx, hb, hml, hown, hts⟩ (m_X0_railLetsWake l hI hL hc er9) (cwV 1 hts gX0_wakeRoom_X0_railLetsWake rfl rfl rfl (by decide +kernel) ⟨Nat.le_trans (by decide) hfr, Nat.le_trans (by decide) hlo⟩) hK hP hS hA (wk_l0 hL hc 0 (by decide)) wk_c0 rfl rfl hl.1 (lv_room (Nat.le_of_ble_eq_true rfl)) hcs dX0_wakeRoom_34 (fun H locs hP hS => ?_)
        refine lv_if_ne (tgt := 43) hx hb dX0_wakeRoom_37 (by decide) (fun g11 => ?_) (fun g11 => ?_)
        · have h := wk_n g11 h
          refine lv_aload_n hx hb dX0_wakeRoom_43 rfl (lv_at hl 0 rfl) ?_
          obtain ⟨r12, M13, er12, h⟩ := wk_cl_e h
          refine wk_cVv (As := []) (rest := []) ⟨hx, hb, hml, hown, hts⟩ (m_X2_startWaking l hI hL hc (wk_ix g4) er12) (cwV 0 hts gX0_wakeRoom_X2_startWaking rfl rfl rfl (by decide +kernel) ⟨Nat.le_trans (by decide) hfr, Nat.le_trans (by decide) hlo⟩) hK hP hS hA (wk_l6 hL hc (wk_ix g4) 6 (by decide) (by decide)) wk_c6 rfl rfl hl.1 (lv_room (Nat.le_of_ble_eq_true rfl)) hcs dX0_wakeRoom_44 (fun H locs hP hS => ?_)
          refine lv_aload_n hx hb dX0_wakeRoom_47 rfl (lv_at hl 0 rfl) ?_
          refine wk_get (ref := "WokenRooms$Room") (C := RX2) (T := TX2) (N := 15) (ci := 2) (v := .ref (B 7 ch v1.toNatClampNeg)) hx hb hts (fun _ h => List.mem_cons_of_mem _ (List.mem_append_right _ h)) hown hK hP (wk_l6 hL hc (wk_ix g4) 6 (by decide) (by decide)) wk_c6 rfl 0 (by decide) q3 rfl rfl dX0_wakeRoom_48 ?_
          refine lv_iconst (v := 1) hx hb dX0_wakeRoom_51 (by decide) ?_
          refine wk_iald (j := 1) hx hb hK hP (wk_l6 hL hc (wk_ix g4) 7 (by decide) (by decide)) wk_c7 (by decide) (by decide) dX0_wakeRoom_52 ?_
          exact RT _ _ _ _ _ _ h hP hS dX0_wakeRoom_53
        · have h := wk_p g11 h
          refine lv_bipush (v := (-2)) hx hb dX0_wakeRoom_40 (by decide) ?_
          exact RT _ _ _ _ _ _ h hP hS dX0_wakeRoom_42
  · have h := wk_p g3 h
    refine lv_iconst (v := (-1)) hx hb dX0_wakeRoom_8 (by decide) ?_
    exact RT _ _ _ _ _ _ h hP hS dX0_wakeRoom_9
set_option maxRecDepth 100000 in
set_option maxHeartbeats 4000000 in
theorem m_X0_wakeRoom (l : Launch) {D : va_G} {y : Nat → ClassId} {B : Nat → Nat → Nat → Nat} {Lk : Nat → Nat → Nat → Prop} (hI : wk_I B Lk) (hL : wk_L Lk) {ch : Nat} (hc : ch < 7) {v1 : Int32} {M : wk_T} {r0 : Int32} {MM : wk_T} (hf : f_X0_wakeRoom ch v1 M = some (r0, MM)) : wk_Mi l yX0_wakeRoom wsX0_wakeRoom 1 24 D y B Lk [.ref (B 0 ch 0), .int v1] M r0 MM :=
  wk_ofI (own := RX0) (bytes := cX0_wakeRoom) (maxL := 3) (ret := some .int) (by decide +kernel) rfl rfl (Or.inl rfl) (Nat.le_of_ble_eq_true rfl) hI hL (fun p e s m args below meth c ls CX RTi RTz hl hP hS => w_X0_wakeRoom_0 CX (RTi rfl) hc hf hl hP hS)
def f_X0_sendToSleep (ch : Nat) (v1 : Int32) (M : wk_T) : Option (Int32 × wk_T) := wk_cl (f_X0_hasRoom ch v1 M) (fun r1 M2 => (if r1 = 0 then (some ((-1), M2)) else wk_gd (¬ (v1 < 0 ∨ 8 ≤ v1.toNatClampNeg)) ((if (M2 6 ch v1.toNatClampNeg 7) = 2 then wk_cl (f_X0_hasDependentsUp ch v1 M2) (fun r6 M7 => (if r6 = 0 then wk_mu (wk_up M7 6 ch v1.toNatClampNeg 7 0) (fun M9 => (some ((M9 6 ch v1.toNatClampNeg 9), M9))) else (some ((-2), M7)))) else (some ((-2), M2))))))
set_option maxRecDepth 20000 in
theorem q_X0_sendToSleep {s : State} {args : Array Value} (hts : ∀ w ∈ wsX0_sendToSleep, w.before args s = true) : (Cond.fieldLink RX0 11 "WokenRooms$Chip" "rooms" "[LWokenRooms$Room;").before args s = true ∧ (Cond.fieldLink RX0 65 "WokenRooms$Room" "state" "I").before args s = true ∧ (Cond.fieldLink RX0 133 "WokenRooms$Room" "idled" "I").before args s = true := ⟨hts _ (List.mem_of_getElem? (i := 1) rfl), hts _ (List.mem_of_getElem? (i := 2) rfl), hts _ (List.mem_of_getElem? (i := 3) rfl)⟩
set_option maxRecDepth 100000 in
set_option maxHeartbeats 4000000 in
theorem w_X0_sendToSleep_0 {ch : Nat} {r0 : Int32} (CX : wk_X p l e R s m args below meth c cells slots Q cX0_sendToSleep 3 RX0 wsX0_sendToSleep D y B Lk A 1 22) (RT : wk_Ri p l e R s m args below meth c cells slots Q cX0_sendToSleep D y B Lk A r0 MM) (hc : ch < 7) {v1 : Int32} {M : wk_T} {H : Heap} {locs : List Loc} {ls : Array Slot} (h : f_X0_sendToSleep ch v1 M = some (r0, MM)) (hl : lv_has ls 3 [(0, .ref (B 0 ch 0)), (1, .int v1)]) (hP : wk_H D y B Lk M H) (hS : va_S A s.heap H locs) : W p l e R s m args below meth c H locs cells slots Q (F0 m 0 ls []) := by
  obtain ⟨⟨hx, hb, hml, hown, hts⟩, hK, hI, hL, hA, hfr, hlo, hcs⟩ := id CX
  obtain ⟨q1, q2, q3⟩ := q_X0_sendToSleep hts
  unfold f_X0_sendToSleep at h
  refine lv_aload_n hx hb dX0_sendToSleep_0 rfl (lv_at hl 0 rfl) ?_
  refine lv_iload_n hx hb dX0_sendToSleep_1 rfl (lv_at hl 1 rfl) ?_
  obtain ⟨r1, M2, er1, h⟩ := wk_cl_e h
  refine wk_cVi (As := [.int v1]) (rest := []) ⟨hx, hb, hml, hown, hts⟩ (m_X0_hasRoom l hI hL hc er1) (cwV 1 hts gX0_sendToSleep_X0_hasRoom rfl rfl rfl (by decide +kernel) ⟨Nat.le_trans (by decide) hfr, Nat.le_trans (by decide) hlo⟩) hK hP hS hA (wk_l0 hL hc 0 (by decide)) wk_c0 rfl rfl hl.1 (lv_room (Nat.le_of_ble_eq_true rfl)) hcs dX0_sendToSleep_2 (fun H locs hP hS => ?_)
  refine lv_if_ne (tgt := 10) hx hb dX0_sendToSleep_5 (by decide) (fun g3 => ?_) (fun g3 => ?_)
  · have h := wk_n g3 h
    refine lv_aload_n hx hb dX0_sendToSleep_10 rfl (lv_at hl 0 rfl) ?_
    refine wk_get (ref := "WokenRooms$Chip") (C := RX0) (T := TX0) (N := 8) (ci := 0) (v := .ref (B 1 ch 0)) hx hb hts (fun _ h => List.mem_cons_of_mem _ (List.mem_append_left _ (List.mem_append_right _ h))) hown hK hP (wk_l0 hL hc 0 (by decide)) wk_c0 rfl 0 (by decide) q1 rfl rfl dX0_sendToSleep_11 ?_
    refine lv_iload_n hx hb dX0_sendToSleep_14 rfl (lv_at hl 1 rfl) ?_
    obtain ⟨g4, h⟩ := wk_gd_e h
    refine wk_aaldR (j := v1.toNatClampNeg) hx hb hK hP (wk_l0 hL hc 1 (by decide)) g4 rfl dX0_sendToSleep_15 ?_
    refine lv_astore_n (lv' := [(2, .ref (B 6 ch v1.toNatClampNeg)), (0, .ref (B 0 ch 0)), (1, .int v1)]) hx hb dX0_sendToSleep_16 rfl hl (by decide) rfl (fun ls hl => ?_)
    refine lv_aload_n hx hb dX0_sendToSleep_17 rfl (lv_at hl 0 rfl) ?_
    refine wk_get (ref := "WokenRooms$Room") (C := RX2) (T := TX2) (N := 15) (ci := 2) (v := .int (M2 6 ch v1.toNatClampNeg 7)) hx hb hts (fun _ h => List.mem_cons_of_mem _ (List.mem_append_right _ h)) hown hK hP (wk_l6 hL hc (wk_ix g4) 6 (by decide) (by decide)) wk_c6 rfl 7 (by decide) q2 rfl rfl dX0_sendToSleep_18 ?_
    refine lv_iconst (v := 2) hx hb dX0_sendToSleep_21 (by decide) ?_
    refine lv_icmp_ne (tgt := 33) hx hb dX0_sendToSleep_22 (by decide) (fun g5 => ?_) (fun g5 => ?_)
    · have h := wk_n g5 h
      refine lv_bipush (v := (-2)) hx hb dX0_sendToSleep_33 (by decide) ?_
      exact RT _ _ _ _ _ _ h hP hS dX0_sendToSleep_35
    · have h := wk_p g5 h
      refine lv_aload_n hx hb dX0_sendToSleep_25 rfl (lv_at hl 1 rfl) ?_
      refine lv_iload_n hx hb dX0_sendToSleep_26 rfl (lv_at hl 2 rfl) ?_
      obtain ⟨r6, M7, er6, h⟩ := wk_cl_e h
      refine wk_cVi (As := [.int v1]) (rest := []) ⟨hx, hb, hml, hown, hts⟩ (m_X0_hasDependentsUp l hI hL hc er6) (cwV 1 hts gX0_sendToSleep_X0_hasDependentsUp rfl rfl rfl (by decide +kernel) ⟨Nat.le_trans (by decide) hfr, Nat.le_trans (by decide) hlo⟩) hK hP hS hA (wk_l0 hL hc 0 (by decide)) wk_c0 rfl rfl hl.1 (lv_room (Nat.le_of_ble_eq_true rfl)) hcs dX0_sendToSleep_27 (fun H locs hP hS => ?_)
      refine lv_if_eq (tgt := 36) hx hb dX0_sendToSleep_30 (by decide) (fun g8 => ?_) (fun g8 => ?_)
      · have h := wk_p g8 h
        refine lv_aload_n hx hb dX0_sendToSleep_36 rfl (lv_at hl 0 rfl) ?_
        refine lv_iconst (v := 0) hx hb dX0_sendToSleep_37 (by decide) ?_
        obtain ⟨M9, eM9, h⟩ := wk_mu_e h
        refine wk_put (ref := "WokenRooms$Room") (C := RX2) (T := TX2) (N := 15) (ci := 2) hx hb hts (fun _ h => List.mem_cons_of_mem _ (List.mem_append_right _ h)) tyX2 tyX2_ok nmX2 hown hK hP hI hS hA (wk_l6 hL hc (wk_ix g4) 6 (by decide) (by decide)) wk_c6 rfl 7 (by decide) q2 rfl rfl (by decide +kernel) (Nat.le_of_ble_eq_true rfl) (by rfl) dX0_sendToSleep_38 (fun H locs hP hS => ?_)
        rw [eM9] at hP
        refine lv_aload_n hx hb dX0_sendToSleep_41 rfl (lv_at hl 0 rfl) ?_
        refine wk_get (ref := "WokenRooms$Room") (C := RX2) (T := TX2) (N := 15) (ci := 2) (v := .int (M9 6 ch v1.toNatClampNeg 9)) hx hb hts (fun _ h => List.mem_cons_of_mem _ (List.mem_append_right _ h)) hown hK hP (wk_l6 hL hc (wk_ix g4) 6 (by decide) (by decide)) wk_c6 rfl 9 (by decide) q3 rfl rfl dX0_sendToSleep_42 ?_
        exact RT _ _ _ _ _ _ h hP hS dX0_sendToSleep_45
      · have h := wk_n g8 h
        refine lv_bipush (v := (-2)) hx hb dX0_sendToSleep_33 (by decide) ?_
        exact RT _ _ _ _ _ _ h hP hS dX0_sendToSleep_35
  · have h := wk_p g3 h
    refine lv_iconst (v := (-1)) hx hb dX0_sendToSleep_8 (by decide) ?_
    exact RT _ _ _ _ _ _ h hP hS dX0_sendToSleep_9
set_option maxRecDepth 100000 in
set_option maxHeartbeats 4000000 in
theorem m_X0_sendToSleep (l : Launch) {D : va_G} {y : Nat → ClassId} {B : Nat → Nat → Nat → Nat} {Lk : Nat → Nat → Nat → Prop} (hI : wk_I B Lk) (hL : wk_L Lk) {ch : Nat} (hc : ch < 7) {v1 : Int32} {M : wk_T} {r0 : Int32} {MM : wk_T} (hf : f_X0_sendToSleep ch v1 M = some (r0, MM)) : wk_Mi l yX0_sendToSleep wsX0_sendToSleep 1 22 D y B Lk [.ref (B 0 ch 0), .int v1] M r0 MM :=
  wk_ofI (own := RX0) (bytes := cX0_sendToSleep) (maxL := 3) (ret := some .int) (by decide +kernel) rfl rfl (Or.inl rfl) (Nat.le_of_ble_eq_true rfl) hI hL (fun p e s m args below meth c ls CX RTi RTz hl hP hS => w_X0_sendToSleep_0 CX (RTi rfl) hc hf hl hP hS)
def f_X0_soughtFor_4 (ch : Nat) : Nat → Int32 → Int32 → wk_T → Option (Int32 × wk_T)
  | 0, _, _, _ => none
  | n + 1, v2, v3, M => (if 8 ≤ v3 then (some ((-1), M)) else wk_cl (f_X0_hasRoom ch v2 M) (fun r2 M3 => (if r2 = 0 then (some ((-1), M3)) else wk_gd (¬ (v2 < 0 ∨ 8 ≤ v2.toNatClampNeg)) ((if (M3 6 ch v2.toNatClampNeg 7) = 0 then wk_cl (f_X0_isReady ch v2 M3) (fun r7 M8 => (if r7 = 0 then wk_gd (¬ (v2 < 0 ∨ 8 ≤ v2.toNatClampNeg)) (wk_lt ((M8 6 ch v2.toNatClampNeg 3)) (fun x11 => wk_lt (v3 + 1) (fun x12 => (f_X0_soughtFor_4 ch n x11 x12 M8)))) else (some (v2, M8)))) else (some ((-1), M3)))))))
def f_X0_soughtFor (ch : Nat) (v1 : Int32) (M : wk_T) : Option (Int32 × wk_T) := (f_X0_soughtFor_4 ch wk_fuel v1 0 M)
set_option maxRecDepth 20000 in
theorem q_X0_soughtFor {s : State} {args : Array Value} (hts : ∀ w ∈ wsX0_soughtFor, w.before args s = true) : (Cond.fieldLink RX0 11 "WokenRooms$Chip" "rooms" "[LWokenRooms$Room;").before args s = true ∧ (Cond.fieldLink RX0 65 "WokenRooms$Room" "state" "I").before args s = true ∧ (Cond.fieldLink RX0 86 "WokenRooms$Room" "needed" "I").before args s = true := ⟨hts _ (List.mem_of_getElem? (i := 1) rfl), hts _ (List.mem_of_getElem? (i := 2) rfl), hts _ (List.mem_of_getElem? (i := 3) rfl)⟩
set_option maxRecDepth 100000 in
set_option maxHeartbeats 4000000 in
theorem w_X0_soughtFor_4 {ch : Nat} {r0 : Int32} (CX : wk_X p l e R s m args below meth c cells slots Q cX0_soughtFor 4 RX0 wsX0_soughtFor D y B Lk A 1 22) (RT : wk_Ri p l e R s m args below meth c cells slots Q cX0_soughtFor D y B Lk A r0 MM) (hc : ch < 7) : ∀ (n : Nat) (v2 : Int32) (v3 : Int32) (M : wk_T) (H : Heap) (locs : List Loc) (ls : Array Slot), f_X0_soughtFor_4 ch n v2 v3 M = some (r0, MM) → lv_has ls 4 [(0, .ref (B 0 ch 0)), (2, .int v2), (3, .int v3)] → wk_H D y B Lk M H → va_S A s.heap H locs → W p l e R s m args below meth c H locs cells slots Q (F0 m 4 ls []) := by
  obtain ⟨⟨hx, hb, hml, hown, hts⟩, hK, hI, hL, hA, hfr, hlo, hcs⟩ := id CX
  obtain ⟨q1, q2, q3⟩ := q_X0_soughtFor hts
  intro n
  induction n with
  | zero =>
    intro v2 v3 M H locs ls h
    exact absurd h (by rw [f_X0_soughtFor_4]; exact fun z => nomatch z)
  | succ n ih =>
    intro v2 v3 M H locs ls h hl hP hS
    rw [f_X0_soughtFor_4] at h
    refine lv_iload_n hx hb dX0_soughtFor_4 rfl (lv_at hl 2 rfl) ?_
    refine lv_bipush (v := 8) hx hb dX0_soughtFor_5 (by decide) ?_
    refine lv_icmp_ge (tgt := 58) hx hb dX0_soughtFor_7 (by decide) (fun g1 => ?_) (fun g1 => ?_)
    · have h := wk_p g1 h
      refine lv_iconst (v := (-1)) hx hb dX0_soughtFor_58 (by decide) ?_
      exact RT _ _ _ _ _ _ h hP hS dX0_soughtFor_59
    · have h := wk_n g1 h
      refine lv_aload_n hx hb dX0_soughtFor_10 rfl (lv_at hl 0 rfl) ?_
      refine lv_iload_n hx hb dX0_soughtFor_11 rfl (lv_at hl 1 rfl) ?_
      obtain ⟨r2, M3, er2, h⟩ := wk_cl_e h
      refine wk_cVi (As := [.int v2]) (rest := []) ⟨hx, hb, hml, hown, hts⟩ (m_X0_hasRoom l hI hL hc er2) (cwV 1 hts gX0_soughtFor_X0_hasRoom rfl rfl rfl (by decide +kernel) ⟨Nat.le_trans (by decide) hfr, Nat.le_trans (by decide) hlo⟩) hK hP hS hA (wk_l0 hL hc 0 (by decide)) wk_c0 rfl rfl hl.1 (lv_room (Nat.le_of_ble_eq_true rfl)) hcs dX0_soughtFor_12 (fun H locs hP hS => ?_)
      refine lv_if_eq (tgt := 58) hx hb dX0_soughtFor_15 (by decide) (fun g4 => ?_) (fun g4 => ?_)
      · have h := wk_p g4 h
        refine lv_iconst (v := (-1)) hx hb dX0_soughtFor_58 (by decide) ?_
        exact RT _ _ _ _ _ _ h hP hS dX0_soughtFor_59
      · have h := wk_n g4 h
        refine lv_aload_n hx hb dX0_soughtFor_18 rfl (lv_at hl 0 rfl) ?_
        refine wk_get (ref := "WokenRooms$Chip") (C := RX0) (T := TX0) (N := 8) (ci := 0) (v := .ref (B 1 ch 0)) hx hb hts (fun _ h => List.mem_cons_of_mem _ (List.mem_append_left _ (List.mem_append_right _ h))) hown hK hP (wk_l0 hL hc 0 (by decide)) wk_c0 rfl 0 (by decide) q1 rfl rfl dX0_soughtFor_19 ?_
        refine lv_iload_n hx hb dX0_soughtFor_22 rfl (lv_at hl 1 rfl) ?_
        obtain ⟨g5, h⟩ := wk_gd_e h
        refine wk_aaldR (j := v2.toNatClampNeg) hx hb hK hP (wk_l0 hL hc 1 (by decide)) g5 rfl dX0_soughtFor_23 ?_
        refine wk_get (ref := "WokenRooms$Room") (C := RX2) (T := TX2) (N := 15) (ci := 2) (v := .int (M3 6 ch v2.toNatClampNeg 7)) hx hb hts (fun _ h => List.mem_cons_of_mem _ (List.mem_append_right _ h)) hown hK hP (wk_l6 hL hc (wk_ix g5) 6 (by decide) (by decide)) wk_c6 rfl 7 (by decide) q2 rfl rfl dX0_soughtFor_24 ?_
        refine lv_if_eq (tgt := 32) hx hb dX0_soughtFor_27 (by decide) (fun g6 => ?_) (fun g6 => ?_)
        · have h := wk_p g6 h
          refine lv_aload_n hx hb dX0_soughtFor_32 rfl (lv_at hl 0 rfl) ?_
          refine lv_iload_n hx hb dX0_soughtFor_33 rfl (lv_at hl 1 rfl) ?_
          obtain ⟨r7, M8, er7, h⟩ := wk_cl_e h
          refine wk_cVi (As := [.int v2]) (rest := []) ⟨hx, hb, hml, hown, hts⟩ (m_X0_isReady l hI hL hc er7) (cwV 1 hts gX0_soughtFor_X0_isReady rfl rfl rfl (by decide +kernel) ⟨Nat.le_trans (by decide) hfr, Nat.le_trans (by decide) hlo⟩) hK hP hS hA (wk_l0 hL hc 0 (by decide)) wk_c0 rfl rfl hl.1 (lv_room (Nat.le_of_ble_eq_true rfl)) hcs dX0_soughtFor_34 (fun H locs hP hS => ?_)
          refine lv_if_eq (tgt := 42) hx hb dX0_soughtFor_37 (by decide) (fun g9 => ?_) (fun g9 => ?_)
          · have h := wk_p g9 h
            refine lv_aload_n hx hb dX0_soughtFor_42 rfl (lv_at hl 0 rfl) ?_
            refine wk_get (ref := "WokenRooms$Chip") (C := RX0) (T := TX0) (N := 8) (ci := 0) (v := .ref (B 1 ch 0)) hx hb hts (fun _ h => List.mem_cons_of_mem _ (List.mem_append_left _ (List.mem_append_right _ h))) hown hK hP (wk_l0 hL hc 0 (by decide)) wk_c0 rfl 0 (by decide) q1 rfl rfl dX0_soughtFor_43 ?_
            refine lv_iload_n hx hb dX0_soughtFor_46 rfl (lv_at hl 1 rfl) ?_
            obtain ⟨g10, h⟩ := wk_gd_e h
            refine wk_aaldR (j := v2.toNatClampNeg) hx hb hK hP (wk_l0 hL hc 1 (by decide)) g10 rfl dX0_soughtFor_47 ?_
            refine wk_get (ref := "WokenRooms$Room") (C := RX2) (T := TX2) (N := 15) (ci := 2) (v := .int (M8 6 ch v2.toNatClampNeg 3)) hx hb hts (fun _ h => List.mem_cons_of_mem _ (List.mem_append_right _ h)) hown hK hP (wk_l6 hL hc (wk_ix g10) 6 (by decide) (by decide)) wk_c6 rfl 3 (by decide) q3 rfl rfl dX0_soughtFor_48 ?_
            obtain ⟨x11, ex11, h⟩ := wk_lt_e h
            refine wk_topi ex11 ?_
            refine lv_istore_n (lv' := [(2, .int x11), (0, .ref (B 0 ch 0)), (3, .int v3)]) hx hb dX0_soughtFor_51 rfl hl (by decide) rfl (fun ls hl => ?_)
            obtain ⟨x12, ex12, h⟩ := wk_lt_e h
            refine lv_iinc (v := x12) (lv' := [(3, .int x12), (2, .int x11), (0, .ref (B 0 ch 0))]) hx hb dX0_soughtFor_52 hl (k := 2) rfl (by rw [← ex12]; rfl) (by decide) rfl (fun ls hl => ?_)
            refine lv_goto (tgt := 4) hx hb dX0_soughtFor_55 (by decide) ?_
            exact ih _ _ _ _ _ _ h (lv_sub hl [2, 1, 0] rfl) hP hS
          · have h := wk_n g9 h
            refine lv_iload_n hx hb dX0_soughtFor_40 rfl (lv_at hl 1 rfl) ?_
            exact RT _ _ _ _ _ _ h hP hS dX0_soughtFor_41
        · have h := wk_n g6 h
          refine lv_iconst (v := (-1)) hx hb dX0_soughtFor_30 (by decide) ?_
          exact RT _ _ _ _ _ _ h hP hS dX0_soughtFor_31
set_option maxRecDepth 100000 in
set_option maxHeartbeats 4000000 in
theorem w_X0_soughtFor_0 {ch : Nat} {r0 : Int32} (CX : wk_X p l e R s m args below meth c cells slots Q cX0_soughtFor 4 RX0 wsX0_soughtFor D y B Lk A 1 22) (RT : wk_Ri p l e R s m args below meth c cells slots Q cX0_soughtFor D y B Lk A r0 MM) (hc : ch < 7) {v1 : Int32} {M : wk_T} {H : Heap} {locs : List Loc} {ls : Array Slot} (h : f_X0_soughtFor ch v1 M = some (r0, MM)) (hl : lv_has ls 4 [(0, .ref (B 0 ch 0)), (1, .int v1)]) (hP : wk_H D y B Lk M H) (hS : va_S A s.heap H locs) : W p l e R s m args below meth c H locs cells slots Q (F0 m 0 ls []) := by
  obtain ⟨⟨hx, hb, hml, hown, hts⟩, hK, hI, hL, hA, hfr, hlo, hcs⟩ := id CX
  obtain ⟨q1, q2, q3⟩ := q_X0_soughtFor hts
  unfold f_X0_soughtFor at h
  refine lv_iload_n hx hb dX0_soughtFor_0 rfl (lv_at hl 1 rfl) ?_
  refine lv_istore_n (lv' := [(2, .int v1), (0, .ref (B 0 ch 0)), (1, .int v1)]) hx hb dX0_soughtFor_1 rfl hl (by decide) rfl (fun ls hl => ?_)
  refine lv_iconst (v := 0) hx hb dX0_soughtFor_2 (by decide) ?_
  refine lv_istore_n (lv' := [(3, .int 0), (2, .int v1), (0, .ref (B 0 ch 0)), (1, .int v1)]) hx hb dX0_soughtFor_3 rfl hl (by decide) rfl (fun ls hl => ?_)
  exact w_X0_soughtFor_4 CX RT hc wk_fuel _ _ _ _ _ _ h (lv_sub hl [2, 1, 0] rfl) hP hS
set_option maxRecDepth 100000 in
set_option maxHeartbeats 4000000 in
theorem m_X0_soughtFor (l : Launch) {D : va_G} {y : Nat → ClassId} {B : Nat → Nat → Nat → Nat} {Lk : Nat → Nat → Nat → Prop} (hI : wk_I B Lk) (hL : wk_L Lk) {ch : Nat} (hc : ch < 7) {v1 : Int32} {M : wk_T} {r0 : Int32} {MM : wk_T} (hf : f_X0_soughtFor ch v1 M = some (r0, MM)) : wk_Mi l yX0_soughtFor wsX0_soughtFor 1 22 D y B Lk [.ref (B 0 ch 0), .int v1] M r0 MM :=
  wk_ofI (own := RX0) (bytes := cX0_soughtFor) (maxL := 4) (ret := some .int) (by decide +kernel) rfl rfl (Or.inl rfl) (Nat.le_of_ble_eq_true rfl) hI hL (fun p e s m args below meth c ls CX RTi RTz hl hP hS => w_X0_soughtFor_0 CX (RTi rfl) hc hf hl hP hS)
def f_X0_wakeIfPossible (ch : Nat) (v1 : Int32) (M : wk_T) : Option (Unit × wk_T) := wk_cl (f_X0_hasRoom ch v1 M) (fun r1 M2 => (if r1 = 0 then (some ((), M2)) else wk_cl (f_X0_railLetsWake ch v1 M2) (fun r4 M5 => (if r4 = 0 then (some ((), M5)) else wk_gd (¬ (v1 < 0 ∨ 8 ≤ v1.toNatClampNeg)) (wk_cl (f_X2_startWaking ch v1.toNatClampNeg M5) (fun _ M9 => (some ((), M9))))))))
set_option maxRecDepth 20000 in
theorem q_X0_wakeIfPossible {s : State} {args : Array Value} (hts : ∀ w ∈ wsX0_wakeIfPossible, w.before args s = true) : (Cond.fieldLink RX0 11 "WokenRooms$Chip" "rooms" "[LWokenRooms$Room;").before args s = true := hts _ (List.mem_of_getElem? (i := 1) rfl)
set_option maxRecDepth 100000 in
set_option maxHeartbeats 4000000 in
theorem w_X0_wakeIfPossible_0 {ch : Nat} (CX : wk_X p l e R s m args below meth c cells slots Q cX0_wakeIfPossible 2 RX0 wsX0_wakeIfPossible D y B Lk A 1 24) (RT : wk_Rv p l e R s m args below meth c cells slots Q cX0_wakeIfPossible D y B Lk A MM) (hc : ch < 7) {v1 : Int32} {M : wk_T} {H : Heap} {locs : List Loc} {ls : Array Slot} (h : f_X0_wakeIfPossible ch v1 M = some ((), MM)) (hl : lv_has ls 2 [(0, .ref (B 0 ch 0)), (1, .int v1)]) (hP : wk_H D y B Lk M H) (hS : va_S A s.heap H locs) : W p l e R s m args below meth c H locs cells slots Q (F0 m 0 ls []) := by
  obtain ⟨⟨hx, hb, hml, hown, hts⟩, hK, hI, hL, hA, hfr, hlo, hcs⟩ := id CX
  have q1 := q_X0_wakeIfPossible hts
  unfold f_X0_wakeIfPossible at h
  refine lv_aload_n hx hb dX0_wakeIfPossible_0 rfl (lv_at hl 0 rfl) ?_
  refine lv_iload_n hx hb dX0_wakeIfPossible_1 rfl (lv_at hl 1 rfl) ?_
  obtain ⟨r1, M2, er1, h⟩ := wk_cl_e h
  refine wk_cVi (As := [.int v1]) (rest := []) ⟨hx, hb, hml, hown, hts⟩ (m_X0_hasRoom l hI hL hc er1) (cwV 1 hts gX0_wakeIfPossible_X0_hasRoom rfl rfl rfl (by decide +kernel) ⟨Nat.le_trans (by decide) hfr, Nat.le_trans (by decide) hlo⟩) hK hP hS hA (wk_l0 hL hc 0 (by decide)) wk_c0 rfl rfl hl.1 (lv_room (Nat.le_of_ble_eq_true rfl)) hcs dX0_wakeIfPossible_2 (fun H locs hP hS => ?_)
  refine lv_if_eq (tgt := 25) hx hb dX0_wakeIfPossible_5 (by decide) (fun g3 => ?_) (fun g3 => ?_)
  · have h := wk_p g3 h
    exact RT _ _ _ _ _ h hP hS dX0_wakeIfPossible_25
  · have h := wk_n g3 h
    refine lv_aload_n hx hb dX0_wakeIfPossible_8 rfl (lv_at hl 0 rfl) ?_
    refine lv_iload_n hx hb dX0_wakeIfPossible_9 rfl (lv_at hl 1 rfl) ?_
    obtain ⟨r4, M5, er4, h⟩ := wk_cl_e h
    refine wk_cVi (As := [.int v1]) (rest := []) ⟨hx, hb, hml, hown, hts⟩ (m_X0_railLetsWake l hI hL hc er4) (cwV 1 hts gX0_wakeIfPossible_X0_railLetsWake rfl rfl rfl (by decide +kernel) ⟨Nat.le_trans (by decide) hfr, Nat.le_trans (by decide) hlo⟩) hK hP hS hA (wk_l0 hL hc 0 (by decide)) wk_c0 rfl rfl hl.1 (lv_room (Nat.le_of_ble_eq_true rfl)) hcs dX0_wakeIfPossible_10 (fun H locs hP hS => ?_)
    refine lv_if_eq (tgt := 25) hx hb dX0_wakeIfPossible_13 (by decide) (fun g6 => ?_) (fun g6 => ?_)
    · have h := wk_p g6 h
      exact RT _ _ _ _ _ h hP hS dX0_wakeIfPossible_25
    · have h := wk_n g6 h
      refine lv_aload_n hx hb dX0_wakeIfPossible_16 rfl (lv_at hl 0 rfl) ?_
      refine wk_get (ref := "WokenRooms$Chip") (C := RX0) (T := TX0) (N := 8) (ci := 0) (v := .ref (B 1 ch 0)) hx hb hts (fun _ h => List.mem_cons_of_mem _ (List.mem_append_left _ (List.mem_append_right _ h))) hown hK hP (wk_l0 hL hc 0 (by decide)) wk_c0 rfl 0 (by decide) q1 rfl rfl dX0_wakeIfPossible_17 ?_
      refine lv_iload_n hx hb dX0_wakeIfPossible_20 rfl (lv_at hl 1 rfl) ?_
      obtain ⟨g7, h⟩ := wk_gd_e h
      refine wk_aaldR (j := v1.toNatClampNeg) hx hb hK hP (wk_l0 hL hc 1 (by decide)) g7 rfl dX0_wakeIfPossible_21 ?_
      obtain ⟨r8, M9, er8, h⟩ := wk_cl_e h
      refine wk_cVv (As := []) (rest := []) ⟨hx, hb, hml, hown, hts⟩ (m_X2_startWaking l hI hL hc (wk_ix g7) er8) (cwV 0 hts gX0_wakeIfPossible_X2_startWaking rfl rfl rfl (by decide +kernel) ⟨Nat.le_trans (by decide) hfr, Nat.le_trans (by decide) hlo⟩) hK hP hS hA (wk_l6 hL hc (wk_ix g7) 6 (by decide) (by decide)) wk_c6 rfl rfl hl.1 (lv_room (Nat.le_of_ble_eq_true rfl)) hcs dX0_wakeIfPossible_22 (fun H locs hP hS => ?_)
      exact RT _ _ _ _ _ h hP hS dX0_wakeIfPossible_25
set_option maxRecDepth 100000 in
set_option maxHeartbeats 4000000 in
theorem m_X0_wakeIfPossible (l : Launch) {D : va_G} {y : Nat → ClassId} {B : Nat → Nat → Nat → Nat} {Lk : Nat → Nat → Nat → Prop} (hI : wk_I B Lk) (hL : wk_L Lk) {ch : Nat} (hc : ch < 7) {v1 : Int32} {M : wk_T} {MM : wk_T} (hf : f_X0_wakeIfPossible ch v1 M = some ((), MM)) : wk_Mv l yX0_wakeIfPossible wsX0_wakeIfPossible 1 24 D y B Lk [.ref (B 0 ch 0), .int v1] M MM :=
  wk_ofV (own := RX0) (bytes := cX0_wakeIfPossible) (maxL := 2) (by decide +kernel) rfl rfl (Nat.le_of_ble_eq_true rfl) hI hL (fun p e s m args below meth c ls CX RT hl hP hS => w_X0_wakeIfPossible_0 CX RT hc hf hl hP hS)
def f_X0_beginDueUse (ch : Nat) (v1 : Int32) (M : wk_T) : Option (Unit × wk_T) := wk_gd (¬ (v1 < 0 ∨ 8 ≤ v1.toNatClampNeg)) ((if (M 6 ch v1.toNatClampNeg 7) = 2 then wk_cl (f_X0_firstUseOf ch v1 M) (fun r3 M4 => wk_cl (f_X0_hasUse ch r3 M4) (fun r5 M6 => (if r5 = 0 then (some ((), M6)) else wk_gd (¬ (r3 < 0 ∨ 12 ≤ r3.toNatClampNeg)) ((if (M6 0 ch 0 7) < (M6 4 ch 0 (r3.toNatClampNeg)) then (some ((), M6)) else wk_gd (¬ (v1 < 0 ∨ 8 ≤ v1.toNatClampNeg)) (wk_gd (¬ (r3 < 0 ∨ 12 ≤ r3.toNatClampNeg)) (wk_gd (¬ (r3 < 0 ∨ 12 ≤ r3.toNatClampNeg)) (wk_cl (f_X2_begin ch v1.toNatClampNeg (M6 0 ch 0 7) (M6 4 ch 0 (r3.toNatClampNeg)) (M6 5 ch 0 (r3.toNatClampNeg)) M6) (fun _ M14 => wk_cl (f_X0_removeUse ch r3 M14) (fun _ M16 => (some ((), M16)))))))))))) else (some ((), M))))
set_option maxRecDepth 20000 in
theorem q_X0_beginDueUse {s : State} {args : Array Value} (hts : ∀ w ∈ wsX0_beginDueUse, w.before args s = true) : (Cond.fieldLink RX0 11 "WokenRooms$Chip" "rooms" "[LWokenRooms$Room;").before args s = true ∧ (Cond.fieldLink RX0 65 "WokenRooms$Room" "state" "I").before args s = true ∧ (Cond.fieldLink RX0 24 "WokenRooms$Chip" "useTimes" "[I").before args s = true ∧ (Cond.fieldLink RX0 48 "WokenRooms$Chip" "time" "I").before args s = true ∧ (Cond.fieldLink RX0 27 "WokenRooms$Chip" "useLengths" "[I").before args s = true := ⟨hts _ (List.mem_of_getElem? (i := 1) rfl), hts _ (List.mem_of_getElem? (i := 2) rfl), hts _ (List.mem_of_getElem? (i := 3) rfl), hts _ (List.mem_of_getElem? (i := 4) rfl), hts _ (List.mem_of_getElem? (i := 5) rfl)⟩
set_option maxRecDepth 100000 in
set_option maxHeartbeats 4000000 in
theorem w_X0_beginDueUse_0 {ch : Nat} (CX : wk_X p l e R s m args below meth c cells slots Q cX0_beginDueUse 3 RX0 wsX0_beginDueUse D y B Lk A 1 24) (RT : wk_Rv p l e R s m args below meth c cells slots Q cX0_beginDueUse D y B Lk A MM) (hc : ch < 7) {v1 : Int32} {M : wk_T} {H : Heap} {locs : List Loc} {ls : Array Slot} (h : f_X0_beginDueUse ch v1 M = some ((), MM)) (hl : lv_has ls 3 [(0, .ref (B 0 ch 0)), (1, .int v1)]) (hP : wk_H D y B Lk M H) (hS : va_S A s.heap H locs) : W p l e R s m args below meth c H locs cells slots Q (F0 m 0 ls []) := by
  obtain ⟨⟨hx, hb, hml, hown, hts⟩, hK, hI, hL, hA, hfr, hlo, hcs⟩ := id CX
  obtain ⟨q1, q2, q3, q4, q5⟩ := q_X0_beginDueUse hts
  unfold f_X0_beginDueUse at h
  refine lv_aload_n hx hb dX0_beginDueUse_0 rfl (lv_at hl 0 rfl) ?_
  refine wk_get (ref := "WokenRooms$Chip") (C := RX0) (T := TX0) (N := 8) (ci := 0) (v := .ref (B 1 ch 0)) hx hb hts (fun _ h => List.mem_cons_of_mem _ (List.mem_append_left _ (List.mem_append_right _ h))) hown hK hP (wk_l0 hL hc 0 (by decide)) wk_c0 rfl 0 (by decide) q1 rfl rfl dX0_beginDueUse_1 ?_
  refine lv_iload_n hx hb dX0_beginDueUse_4 rfl (lv_at hl 1 rfl) ?_
  obtain ⟨g1, h⟩ := wk_gd_e h
  refine wk_aaldR (j := v1.toNatClampNeg) hx hb hK hP (wk_l0 hL hc 1 (by decide)) g1 rfl dX0_beginDueUse_5 ?_
  refine wk_get (ref := "WokenRooms$Room") (C := RX2) (T := TX2) (N := 15) (ci := 2) (v := .int (M 6 ch v1.toNatClampNeg 7)) hx hb hts (fun _ h => List.mem_cons_of_mem _ (List.mem_append_right _ h)) hown hK hP (wk_l6 hL hc (wk_ix g1) 6 (by decide) (by decide)) wk_c6 rfl 7 (by decide) q2 rfl rfl dX0_beginDueUse_6 ?_
  refine lv_iconst (v := 2) hx hb dX0_beginDueUse_9 (by decide) ?_
  refine lv_icmp_eq (tgt := 14) hx hb dX0_beginDueUse_10 (by decide) (fun g2 => ?_) (fun g2 => ?_)
  · have h := wk_p g2 h
    refine lv_aload_n hx hb dX0_beginDueUse_14 rfl (lv_at hl 0 rfl) ?_
    refine lv_iload_n hx hb dX0_beginDueUse_15 rfl (lv_at hl 1 rfl) ?_
    obtain ⟨r3, M4, er3, h⟩ := wk_cl_e h
    refine wk_cVi (As := [.int v1]) (rest := []) ⟨hx, hb, hml, hown, hts⟩ (m_X0_firstUseOf l hI hL hc er3) (cwV 1 hts gX0_beginDueUse_X0_firstUseOf rfl rfl rfl (by decide +kernel) ⟨Nat.le_trans (by decide) hfr, Nat.le_trans (by decide) hlo⟩) hK hP hS hA (wk_l0 hL hc 0 (by decide)) wk_c0 rfl rfl hl.1 (lv_room (Nat.le_of_ble_eq_true rfl)) hcs dX0_beginDueUse_16 (fun H locs hP hS => ?_)
    refine lv_istore_n (lv' := [(2, .int r3), (0, .ref (B 0 ch 0)), (1, .int v1)]) hx hb dX0_beginDueUse_19 rfl hl (by decide) rfl (fun ls hl => ?_)
    refine lv_aload_n hx hb dX0_beginDueUse_20 rfl (lv_at hl 1 rfl) ?_
    refine lv_iload_n hx hb dX0_beginDueUse_21 rfl (lv_at hl 0 rfl) ?_
    obtain ⟨r5, M6, er5, h⟩ := wk_cl_e h
    refine wk_cVi (As := [.int r3]) (rest := []) ⟨hx, hb, hml, hown, hts⟩ (m_X0_hasUse l hI hL hc er5) (cwV 1 hts gX0_beginDueUse_X0_hasUse rfl rfl rfl (by decide +kernel) ⟨Nat.le_trans (by decide) hfr, Nat.le_trans (by decide) hlo⟩) hK hP hS hA (wk_l0 hL hc 0 (by decide)) wk_c0 rfl rfl hl.1 (lv_room (Nat.le_of_ble_eq_true rfl)) hcs dX0_beginDueUse_22 (fun H locs hP hS => ?_)
    refine lv_if_eq (tgt := 71) hx hb dX0_beginDueUse_25 (by decide) (fun g7 => ?_) (fun g7 => ?_)
    · have h := wk_p g7 h
      exact RT _ _ _ _ _ h hP hS dX0_beginDueUse_71
    · have h := wk_n g7 h
      refine lv_aload_n hx hb dX0_beginDueUse_28 rfl (lv_at hl 1 rfl) ?_
      refine wk_get (ref := "WokenRooms$Chip") (C := RX0) (T := TX0) (N := 8) (ci := 0) (v := .ref (B 4 ch 0)) hx hb hts (fun _ h => List.mem_cons_of_mem _ (List.mem_append_left _ (List.mem_append_right _ h))) hown hK hP (wk_l0 hL hc 0 (by decide)) wk_c0 rfl 4 (by decide) q3 rfl rfl dX0_beginDueUse_29 ?_
      refine lv_iload_n hx hb dX0_beginDueUse_32 rfl (lv_at hl 0 rfl) ?_
      obtain ⟨g8, h⟩ := wk_gd_e h
      refine wk_iald (j := r3.toNatClampNeg) hx hb hK hP (wk_l0 hL hc 4 (by decide)) wk_c4 g8 rfl dX0_beginDueUse_33 ?_
      refine lv_aload_n hx hb dX0_beginDueUse_34 rfl (lv_at hl 1 rfl) ?_
      refine wk_get (ref := "WokenRooms$Chip") (C := RX0) (T := TX0) (N := 8) (ci := 0) (v := .int (M6 0 ch 0 7)) hx hb hts (fun _ h => List.mem_cons_of_mem _ (List.mem_append_left _ (List.mem_append_right _ h))) hown hK hP (wk_l0 hL hc 0 (by decide)) wk_c0 rfl 7 (by decide) q4 rfl rfl dX0_beginDueUse_35 ?_
      refine lv_icmp_gt (tgt := 71) hx hb dX0_beginDueUse_38 (by decide) (fun g9 => ?_) (fun g9 => ?_)
      · have h := wk_p g9 h
        exact RT _ _ _ _ _ h hP hS dX0_beginDueUse_71
      · have h := wk_n g9 h
        refine lv_aload_n hx hb dX0_beginDueUse_41 rfl (lv_at hl 1 rfl) ?_
        refine wk_get (ref := "WokenRooms$Chip") (C := RX0) (T := TX0) (N := 8) (ci := 0) (v := .ref (B 1 ch 0)) hx hb hts (fun _ h => List.mem_cons_of_mem _ (List.mem_append_left _ (List.mem_append_right _ h))) hown hK hP (wk_l0 hL hc 0 (by decide)) wk_c0 rfl 0 (by decide) q1 rfl rfl dX0_beginDueUse_42 ?_
        refine lv_iload_n hx hb dX0_beginDueUse_45 rfl (lv_at hl 2 rfl) ?_
        obtain ⟨g10, h⟩ := wk_gd_e h
        refine wk_aaldR (j := v1.toNatClampNeg) hx hb hK hP (wk_l0 hL hc 1 (by decide)) g10 rfl dX0_beginDueUse_46 ?_
        refine lv_aload_n hx hb dX0_beginDueUse_47 rfl (lv_at hl 1 rfl) ?_
        refine wk_get (ref := "WokenRooms$Chip") (C := RX0) (T := TX0) (N := 8) (ci := 0) (v := .int (M6 0 ch 0 7)) hx hb hts (fun _ h => List.mem_cons_of_mem _ (List.mem_append_left _ (List.mem_append_right _ h))) hown hK hP (wk_l0 hL hc 0 (by decide)) wk_c0 rfl 7 (by decide) q4 rfl rfl dX0_beginDueUse_48 ?_
        refine lv_aload_n hx hb dX0_beginDueUse_51 rfl (lv_at hl 1 rfl) ?_
        refine wk_get (ref := "WokenRooms$Chip") (C := RX0) (T := TX0) (N := 8) (ci := 0) (v := .ref (B 4 ch 0)) hx hb hts (fun _ h => List.mem_cons_of_mem _ (List.mem_append_left _ (List.mem_append_right _ h))) hown hK hP (wk_l0 hL hc 0 (by decide)) wk_c0 rfl 4 (by decide) q3 rfl rfl dX0_beginDueUse_52 ?_
        refine lv_iload_n hx hb dX0_beginDueUse_55 rfl (lv_at hl 0 rfl) ?_
        obtain ⟨g11, h⟩ := wk_gd_e h
        refine wk_iald (j := r3.toNatClampNeg) hx hb hK hP (wk_l0 hL hc 4 (by decide)) wk_c4 g11 rfl dX0_beginDueUse_56 ?_
        refine lv_aload_n hx hb dX0_beginDueUse_57 rfl (lv_at hl 1 rfl) ?_
        refine wk_get (ref := "WokenRooms$Chip") (C := RX0) (T := TX0) (N := 8) (ci := 0) (v := .ref (B 5 ch 0)) hx hb hts (fun _ h => List.mem_cons_of_mem _ (List.mem_append_left _ (List.mem_append_right _ h))) hown hK hP (wk_l0 hL hc 0 (by decide)) wk_c0 rfl 5 (by decide) q5 rfl rfl dX0_beginDueUse_58 ?_
        refine lv_iload_n hx hb dX0_beginDueUse_61 rfl (lv_at hl 0 rfl) ?_
        obtain ⟨g12, h⟩ := wk_gd_e h
        refine wk_iald (j := r3.toNatClampNeg) hx hb hK hP (wk_l0 hL hc 5 (by decide)) wk_c5 g12 rfl dX0_beginDueUse_62 ?_
        obtain ⟨r13, M14, er13, h⟩ := wk_cl_e h
        refine wk_cVv (As := [.int (M6 0 ch 0 7), .int (M6 4 ch 0 (r3.toNatClampNeg)), .int (M6 5 ch 0 (r3.toNatClampNeg))]) (rest := []) ⟨hx, hb, hml, hown, hts⟩ (m_X2_begin l hI hL hc (wk_ix g10) er13) (cwV 3 hts gX0_beginDueUse_X2_begin rfl rfl rfl (by decide +kernel) ⟨Nat.le_trans (by decide) hfr, Nat.le_trans (by decide) hlo⟩) hK hP hS hA (wk_l6 hL hc (wk_ix g10) 6 (by decide) (by decide)) wk_c6 rfl rfl hl.1 (lv_room (Nat.le_of_ble_eq_true rfl)) hcs dX0_beginDueUse_63 (fun H locs hP hS => ?_)
        refine lv_aload_n hx hb dX0_beginDueUse_66 rfl (lv_at hl 1 rfl) ?_
        refine lv_iload_n hx hb dX0_beginDueUse_67 rfl (lv_at hl 0 rfl) ?_
        obtain ⟨r15, M16, er15, h⟩ := wk_cl_e h
        refine wk_cVv (As := [.int r3]) (rest := []) ⟨hx, hb, hml, hown, hts⟩ (m_X0_removeUse l hI hL hc er15) (cwV 1 hts gX0_beginDueUse_X0_removeUse rfl rfl rfl (by decide +kernel) ⟨Nat.le_trans (by decide) hfr, Nat.le_trans (by decide) hlo⟩) hK hP hS hA (wk_l0 hL hc 0 (by decide)) wk_c0 rfl rfl hl.1 (lv_room (Nat.le_of_ble_eq_true rfl)) hcs dX0_beginDueUse_68 (fun H locs hP hS => ?_)
        exact RT _ _ _ _ _ h hP hS dX0_beginDueUse_71
  · have h := wk_n g2 h
    exact RT _ _ _ _ _ h hP hS dX0_beginDueUse_13
set_option maxRecDepth 100000 in
set_option maxHeartbeats 4000000 in
theorem m_X0_beginDueUse (l : Launch) {D : va_G} {y : Nat → ClassId} {B : Nat → Nat → Nat → Nat} {Lk : Nat → Nat → Nat → Prop} (hI : wk_I B Lk) (hL : wk_L Lk) {ch : Nat} (hc : ch < 7) {v1 : Int32} {M : wk_T} {MM : wk_T} (hf : f_X0_beginDueUse ch v1 M = some ((), MM)) : wk_Mv l yX0_beginDueUse wsX0_beginDueUse 1 24 D y B Lk [.ref (B 0 ch 0), .int v1] M MM :=
  wk_ofV (own := RX0) (bytes := cX0_beginDueUse) (maxL := 3) (by decide +kernel) rfl rfl (Nat.le_of_ble_eq_true rfl) hI hL (fun p e s m args below meth c ls CX RT hl hP hS => w_X0_beginDueUse_0 CX RT hc hf hl hP hS)
def f_X0_goOn_23 (ch : Nat) (i2 : Nat) (M : wk_T) : Option (Unit × wk_T) := wk_cl (f_X2_workOn ch i2 M) (fun _ M2 => (some ((), M2)))
def f_X0_goOn (ch : Nat) (v1 : Int32) (M : wk_T) : Option (Unit × wk_T) := wk_gd (¬ (v1 < 0 ∨ 8 ≤ v1.toNatClampNeg)) ((if (M 6 ch v1.toNatClampNeg 7) = 1 then (f_X0_goOn_23 ch v1.toNatClampNeg M) else (if (M 6 ch v1.toNatClampNeg 7) = 3 then (f_X0_goOn_23 ch v1.toNatClampNeg M) else (if (M 6 ch v1.toNatClampNeg 7) = 2 then wk_mu (wk_up M 6 ch v1.toNatClampNeg 9 ((M 6 ch v1.toNatClampNeg 9) + 1)) (fun M5 => wk_cl (f_X2_isTimedOut ch v1.toNatClampNeg M5) (fun r6 M7 => (if r6 = 0 then (some ((), M7)) else wk_cl (f_X0_hasDependentsUp ch v1 M7) (fun r9 M10 => (if r9 = 0 then wk_mu (wk_up M10 6 ch v1.toNatClampNeg 7 0) (fun M12 => (some ((), M12))) else (some ((), M10))))))) else (some ((), M))))))
set_option maxRecDepth 20000 in
theorem q_X0_goOn {s : State} {args : Array Value} (hts : ∀ w ∈ wsX0_goOn, w.before args s = true) : (Cond.fieldLink RX0 11 "WokenRooms$Chip" "rooms" "[LWokenRooms$Room;").before args s = true ∧ (Cond.fieldLink RX0 65 "WokenRooms$Room" "state" "I").before args s = true ∧ (Cond.fieldLink RX0 133 "WokenRooms$Room" "idled" "I").before args s = true := ⟨hts _ (List.mem_of_getElem? (i := 1) rfl), hts _ (List.mem_of_getElem? (i := 2) rfl), hts _ (List.mem_of_getElem? (i := 3) rfl)⟩
set_option maxRecDepth 100000 in
set_option maxHeartbeats 4000000 in
theorem w_X0_goOn_23 {ch : Nat} (CX : wk_X p l e R s m args below meth c cells slots Q cX0_goOn 3 RX0 wsX0_goOn D y B Lk A 1 22) (RT : wk_Rv p l e R s m args below meth c cells slots Q cX0_goOn D y B Lk A MM) (hc : ch < 7) {i2 : Nat} {M : wk_T} {H : Heap} {locs : List Loc} {ls : Array Slot} (hi2 : i2 < 8) (h : f_X0_goOn_23 ch i2 M = some ((), MM)) (hl : lv_has ls 3 [(2, .ref (B 6 ch i2))]) (hP : wk_H D y B Lk M H) (hS : va_S A s.heap H locs) : W p l e R s m args below meth c H locs cells slots Q (F0 m 23 ls []) := by
  obtain ⟨⟨hx, hb, hml, hown, hts⟩, hK, hI, hL, hA, hfr, hlo, hcs⟩ := id CX
  obtain ⟨q1, q2, q3⟩ := q_X0_goOn hts
  unfold f_X0_goOn_23 at h
  refine lv_aload_n hx hb dX0_goOn_23 rfl (lv_at hl 0 rfl) ?_
  obtain ⟨r1, M2, er1, h⟩ := wk_cl_e h
  refine wk_cVv (As := []) (rest := []) ⟨hx, hb, hml, hown, hts⟩ (m_X2_workOn l hI hL hc hi2 er1) (cwV 0 hts gX0_goOn_X2_workOn rfl rfl rfl (by decide +kernel) ⟨Nat.le_trans (by decide) hfr, Nat.le_trans (by decide) hlo⟩) hK hP hS hA (wk_l6 hL hc hi2 6 (by decide) (by decide)) wk_c6 rfl rfl hl.1 (lv_room (Nat.le_of_ble_eq_true rfl)) hcs dX0_goOn_24 (fun H locs hP hS => ?_)
  refine lv_goto (tgt := 68) hx hb dX0_goOn_27 (by decide) ?_
  exact RT _ _ _ _ _ h hP hS dX0_goOn_68
set_option maxRecDepth 100000 in
set_option maxHeartbeats 4000000 in
theorem w_X0_goOn_0 {ch : Nat} (CX : wk_X p l e R s m args below meth c cells slots Q cX0_goOn 3 RX0 wsX0_goOn D y B Lk A 1 22) (RT : wk_Rv p l e R s m args below meth c cells slots Q cX0_goOn D y B Lk A MM) (hc : ch < 7) {v1 : Int32} {M : wk_T} {H : Heap} {locs : List Loc} {ls : Array Slot} (h : f_X0_goOn ch v1 M = some ((), MM)) (hl : lv_has ls 3 [(0, .ref (B 0 ch 0)), (1, .int v1)]) (hP : wk_H D y B Lk M H) (hS : va_S A s.heap H locs) : W p l e R s m args below meth c H locs cells slots Q (F0 m 0 ls []) := by
  obtain ⟨⟨hx, hb, hml, hown, hts⟩, hK, hI, hL, hA, hfr, hlo, hcs⟩ := id CX
  obtain ⟨q1, q2, q3⟩ := q_X0_goOn hts
  unfold f_X0_goOn at h
  refine lv_aload_n hx hb dX0_goOn_0 rfl (lv_at hl 0 rfl) ?_
  refine wk_get (ref := "WokenRooms$Chip") (C := RX0) (T := TX0) (N := 8) (ci := 0) (v := .ref (B 1 ch 0)) hx hb hts (fun _ h => List.mem_cons_of_mem _ (List.mem_append_left _ (List.mem_append_right _ h))) hown hK hP (wk_l0 hL hc 0 (by decide)) wk_c0 rfl 0 (by decide) q1 rfl rfl dX0_goOn_1 ?_
  refine lv_iload_n hx hb dX0_goOn_4 rfl (lv_at hl 1 rfl) ?_
  obtain ⟨g1, h⟩ := wk_gd_e h
  refine wk_aaldR (j := v1.toNatClampNeg) hx hb hK hP (wk_l0 hL hc 1 (by decide)) g1 rfl dX0_goOn_5 ?_
  refine lv_astore_n (lv' := [(2, .ref (B 6 ch v1.toNatClampNeg)), (0, .ref (B 0 ch 0)), (1, .int v1)]) hx hb dX0_goOn_6 rfl hl (by decide) rfl (fun ls hl => ?_)
  refine lv_aload_n hx hb dX0_goOn_7 rfl (lv_at hl 0 rfl) ?_
  refine wk_get (ref := "WokenRooms$Room") (C := RX2) (T := TX2) (N := 15) (ci := 2) (v := .int (M 6 ch v1.toNatClampNeg 7)) hx hb hts (fun _ h => List.mem_cons_of_mem _ (List.mem_append_right _ h)) hown hK hP (wk_l6 hL hc (wk_ix g1) 6 (by decide) (by decide)) wk_c6 rfl 7 (by decide) q2 rfl rfl dX0_goOn_8 ?_
  refine lv_iconst (v := 1) hx hb dX0_goOn_11 (by decide) ?_
  refine lv_icmp_eq (tgt := 23) hx hb dX0_goOn_12 (by decide) (fun g2 => ?_) (fun g2 => ?_)
  · have h := wk_p g2 h
    exact w_X0_goOn_23 CX RT hc (wk_ix g1) h (lv_sub hl [0] rfl) hP hS
  · have h := wk_n g2 h
    refine lv_aload_n hx hb dX0_goOn_15 rfl (lv_at hl 0 rfl) ?_
    refine wk_get (ref := "WokenRooms$Room") (C := RX2) (T := TX2) (N := 15) (ci := 2) (v := .int (M 6 ch v1.toNatClampNeg 7)) hx hb hts (fun _ h => List.mem_cons_of_mem _ (List.mem_append_right _ h)) hown hK hP (wk_l6 hL hc (wk_ix g1) 6 (by decide) (by decide)) wk_c6 rfl 7 (by decide) q2 rfl rfl dX0_goOn_16 ?_
    refine lv_iconst (v := 3) hx hb dX0_goOn_19 (by decide) ?_
    refine lv_icmp_ne (tgt := 30) hx hb dX0_goOn_20 (by decide) (fun g3 => ?_) (fun g3 => ?_)
    · have h := wk_n g3 h
      refine lv_aload_n hx hb dX0_goOn_30 rfl (lv_at hl 0 rfl) ?_
      refine wk_get (ref := "WokenRooms$Room") (C := RX2) (T := TX2) (N := 15) (ci := 2) (v := .int (M 6 ch v1.toNatClampNeg 7)) hx hb hts (fun _ h => List.mem_cons_of_mem _ (List.mem_append_right _ h)) hown hK hP (wk_l6 hL hc (wk_ix g1) 6 (by decide) (by decide)) wk_c6 rfl 7 (by decide) q2 rfl rfl dX0_goOn_31 ?_
      refine lv_iconst (v := 2) hx hb dX0_goOn_34 (by decide) ?_
      refine lv_icmp_ne (tgt := 68) hx hb dX0_goOn_35 (by decide) (fun g4 => ?_) (fun g4 => ?_)
      · have h := wk_n g4 h
        exact RT _ _ _ _ _ h hP hS dX0_goOn_68
      · have h := wk_p g4 h
        refine lv_aload_n hx hb dX0_goOn_38 rfl (lv_at hl 0 rfl) ?_
        refine lv_dup hx hb dX0_goOn_39 rfl ?_
        refine wk_get (ref := "WokenRooms$Room") (C := RX2) (T := TX2) (N := 15) (ci := 2) (v := .int (M 6 ch v1.toNatClampNeg 9)) hx hb hts (fun _ h => List.mem_cons_of_mem _ (List.mem_append_right _ h)) hown hK hP (wk_l6 hL hc (wk_ix g1) 6 (by decide) (by decide)) wk_c6 rfl 9 (by decide) q3 rfl rfl dX0_goOn_40 ?_
        refine lv_iconst (v := 1) hx hb dX0_goOn_43 (by decide) ?_
        refine lv_iadd hx hb dX0_goOn_44 ?_
        obtain ⟨M5, eM5, h⟩ := wk_mu_e h
        refine wk_put (ref := "WokenRooms$Room") (C := RX2) (T := TX2) (N := 15) (ci := 2) hx hb hts (fun _ h => List.mem_cons_of_mem _ (List.mem_append_right _ h)) tyX2 tyX2_ok nmX2 hown hK hP hI hS hA (wk_l6 hL hc (wk_ix g1) 6 (by decide) (by decide)) wk_c6 rfl 9 (by decide) q3 rfl rfl (by decide +kernel) (Nat.le_of_ble_eq_true rfl) (by rfl) dX0_goOn_45 (fun H locs hP hS => ?_)
        rw [eM5] at hP
        refine lv_aload_n hx hb dX0_goOn_48 rfl (lv_at hl 0 rfl) ?_
        obtain ⟨r6, M7, er6, h⟩ := wk_cl_e h
        refine wk_cVi (As := []) (rest := []) ⟨hx, hb, hml, hown, hts⟩ (m_X2_isTimedOut l hI hL hc (wk_ix g1) er6) (cwV 0 hts gX0_goOn_X2_isTimedOut rfl rfl rfl (by decide +kernel) ⟨Nat.le_trans (by decide) hfr, Nat.le_trans (by decide) hlo⟩) hK hP hS hA (wk_l6 hL hc (wk_ix g1) 6 (by decide) (by decide)) wk_c6 rfl rfl hl.1 (lv_room (Nat.le_of_ble_eq_true rfl)) hcs dX0_goOn_49 (fun H locs hP hS => ?_)
        refine lv_if_eq (tgt := 68) hx hb dX0_goOn_52 (by decide) (fun g8 => ?_) (fun g8 => ?_)
        · have h := wk_p g8 h
          exact RT _ _ _ _ _ h hP hS dX0_goOn_68
        · have h := wk_n g8 h
          refine lv_aload_n hx hb dX0_goOn_55 rfl (lv_at hl 1 rfl) ?_
          refine lv_iload_n hx hb dX0_goOn_56 rfl (lv_at hl 2 rfl) ?_
          obtain ⟨r9, M10, er9, h⟩ := wk_cl_e h
          refine wk_cVi (As := [.int v1]) (rest := []) ⟨hx, hb, hml, hown, hts⟩ (m_X0_hasDependentsUp l hI hL hc er9) (cwV 1 hts gX0_goOn_X0_hasDependentsUp rfl rfl rfl (by decide +kernel) ⟨Nat.le_trans (by decide) hfr, Nat.le_trans (by decide) hlo⟩) hK hP hS hA (wk_l0 hL hc 0 (by decide)) wk_c0 rfl rfl hl.1 (lv_room (Nat.le_of_ble_eq_true rfl)) hcs dX0_goOn_57 (fun H locs hP hS => ?_)
          refine lv_if_ne (tgt := 68) hx hb dX0_goOn_60 (by decide) (fun g11 => ?_) (fun g11 => ?_)
          · have h := wk_n g11 h
            exact RT _ _ _ _ _ h hP hS dX0_goOn_68
          · have h := wk_p g11 h
            refine lv_aload_n hx hb dX0_goOn_63 rfl (lv_at hl 0 rfl) ?_
            refine lv_iconst (v := 0) hx hb dX0_goOn_64 (by decide) ?_
            obtain ⟨M12, eM12, h⟩ := wk_mu_e h
            refine wk_put (ref := "WokenRooms$Room") (C := RX2) (T := TX2) (N := 15) (ci := 2) hx hb hts (fun _ h => List.mem_cons_of_mem _ (List.mem_append_right _ h)) tyX2 tyX2_ok nmX2 hown hK hP hI hS hA (wk_l6 hL hc (wk_ix g1) 6 (by decide) (by decide)) wk_c6 rfl 7 (by decide) q2 rfl rfl (by decide +kernel) (Nat.le_of_ble_eq_true rfl) (by rfl) dX0_goOn_65 (fun H locs hP hS => ?_)
            rw [eM12] at hP
            exact RT _ _ _ _ _ h hP hS dX0_goOn_68
    · have h := wk_p g3 h
      exact w_X0_goOn_23 CX RT hc (wk_ix g1) h (lv_sub hl [0] rfl) hP hS
set_option maxRecDepth 100000 in
set_option maxHeartbeats 4000000 in
theorem m_X0_goOn (l : Launch) {D : va_G} {y : Nat → ClassId} {B : Nat → Nat → Nat → Nat} {Lk : Nat → Nat → Nat → Prop} (hI : wk_I B Lk) (hL : wk_L Lk) {ch : Nat} (hc : ch < 7) {v1 : Int32} {M : wk_T} {MM : wk_T} (hf : f_X0_goOn ch v1 M = some ((), MM)) : wk_Mv l yX0_goOn wsX0_goOn 1 22 D y B Lk [.ref (B 0 ch 0), .int v1] M MM :=
  wk_ofV (own := RX0) (bytes := cX0_goOn) (maxL := 3) (by decide +kernel) rfl rfl (Nat.le_of_ble_eq_true rfl) hI hL (fun p e s m args below meth c ls CX RT hl hP hS => w_X0_goOn_0 CX RT hc hf hl hP hS)
def f_X0_passTick_39 (ch : Nat) (k2 : Int32 → wk_T → Option (Unit × wk_T)) (v1 : Int32) (M : wk_T) : Option (Unit × wk_T) := wk_cl (f_X0_beginDueUse ch v1 M) (fun _ M2 => wk_lt (v1 + 1) (fun x3 => (k2 x3 M2)))
def f_X0_passTick_77 (ch : Nat) : Nat → Int32 → wk_T → Option (Unit × wk_T)
  | 0, _, _ => none
  | n + 1, v1, M => (if (M 0 ch 0 1) ≤ v1 then wk_mu (wk_up M 0 ch 0 7 ((M 0 ch 0 7) + 1)) (fun M2 => (some ((), M2))) else wk_cl (f_X0_goOn ch v1 M) (fun _ M4 => wk_lt (v1 + 1) (fun x5 => (f_X0_passTick_77 ch n x5 M4))))
def f_X0_passTick_52 (ch : Nat) : Nat → Int32 → wk_T → Option (Unit × wk_T)
  | 0, _, _ => none
  | n + 1, v1, M => (if (M 0 ch 0 1) ≤ v1 then (f_X0_passTick_77 ch wk_fuel 0 M) else wk_gd (¬ (v1 < 0 ∨ 8 ≤ v1.toNatClampNeg)) (wk_cl (f_X2_payForTick ch v1.toNatClampNeg M) (fun _ M4 => wk_lt (v1 + 1) (fun x5 => (f_X0_passTick_52 ch n x5 M4)))))
def f_X0_passTick_2 (ch : Nat) : Nat → Int32 → wk_T → Option (Unit × wk_T)
  | 0, _, _ => none
  | n + 1, v1, M => (if (M 0 ch 0 1) ≤ v1 then (f_X0_passTick_52 ch wk_fuel 0 M) else wk_gd (¬ (v1 < 0 ∨ 8 ≤ v1.toNatClampNeg)) ((if (M 6 ch v1.toNatClampNeg 7) = 0 then wk_cl (f_X0_isCalled ch v1 M) (fun r4 M5 => (if r4 = 0 then (f_X0_passTick_39 ch (f_X0_passTick_2 ch n) v1 M5) else wk_cl (f_X0_soughtFor ch v1 M5) (fun r7 M8 => wk_cl (f_X0_wakeIfPossible ch r7 M8) (fun _ M10 => (f_X0_passTick_39 ch (f_X0_passTick_2 ch n) v1 M10))))) else (f_X0_passTick_39 ch (f_X0_passTick_2 ch n) v1 M))))
def f_X0_passTick (ch : Nat) (M : wk_T) : Option (Unit × wk_T) := (f_X0_passTick_2 ch wk_fuel 0 M)
set_option maxRecDepth 20000 in
theorem q_X0_passTick {s : State} {args : Array Value} (hts : ∀ w ∈ wsX0_passTick, w.before args s = true) : (Cond.fieldLink RX0 31 "WokenRooms$Chip" "roomCount" "I").before args s = true ∧ (Cond.fieldLink RX0 11 "WokenRooms$Chip" "rooms" "[LWokenRooms$Room;").before args s = true ∧ (Cond.fieldLink RX0 65 "WokenRooms$Room" "state" "I").before args s = true ∧ (Cond.fieldLink RX0 48 "WokenRooms$Chip" "time" "I").before args s = true := ⟨hts _ (List.mem_of_getElem? (i := 1) rfl), hts _ (List.mem_of_getElem? (i := 2) rfl), hts _ (List.mem_of_getElem? (i := 3) rfl), hts _ (List.mem_of_getElem? (i := 4) rfl)⟩
set_option maxRecDepth 100000 in
set_option maxHeartbeats 4000000 in
theorem w_X0_passTick_39 {ch : Nat} (CX : wk_X p l e R s m args below meth c cells slots Q cX0_passTick 2 RX0 wsX0_passTick D y B Lk A 2 48) (RT : wk_Rv p l e R s m args below meth c cells slots Q cX0_passTick D y B Lk A MM) (hc : ch < 7) {k2 : Int32 → wk_T → Option (Unit × wk_T)} (hk2 : ∀ (v1 : Int32) (M : wk_T) (H : Heap) (locs : List Loc) (ls : Array Slot), k2 v1 M = some ((), MM) → lv_has ls 2 [(0, .ref (B 0 ch 0)), (1, .int v1)] → wk_H D y B Lk M H → va_S A s.heap H locs → W p l e R s m args below meth c H locs cells slots Q (F0 m 2 ls [])) {v1 : Int32} {M : wk_T} {H : Heap} {locs : List Loc} {ls : Array Slot} (h : f_X0_passTick_39 ch k2 v1 M = some ((), MM)) (hl : lv_has ls 2 [(0, .ref (B 0 ch 0)), (1, .int v1)]) (hP : wk_H D y B Lk M H) (hS : va_S A s.heap H locs) : W p l e R s m args below meth c H locs cells slots Q (F0 m 39 ls []) := by
  obtain ⟨⟨hx, hb, hml, hown, hts⟩, hK, hI, hL, hA, hfr, hlo, hcs⟩ := id CX
  obtain ⟨q1, q2, q3, q4⟩ := q_X0_passTick hts
  unfold f_X0_passTick_39 at h
  refine lv_aload_n hx hb dX0_passTick_39 rfl (lv_at hl 0 rfl) ?_
  refine lv_iload_n hx hb dX0_passTick_40 rfl (lv_at hl 1 rfl) ?_
  obtain ⟨r1, M2, er1, h⟩ := wk_cl_e h
  refine wk_cVv (As := [.int v1]) (rest := []) ⟨hx, hb, hml, hown, hts⟩ (m_X0_beginDueUse l hI hL hc er1) (cwV 1 hts gX0_passTick_X0_beginDueUse rfl rfl rfl (by decide +kernel) ⟨Nat.le_trans (by decide) hfr, Nat.le_trans (by decide) hlo⟩) hK hP hS hA (wk_l0 hL hc 0 (by decide)) wk_c0 rfl rfl hl.1 (lv_room (Nat.le_of_ble_eq_true rfl)) hcs dX0_passTick_41 (fun H locs hP hS => ?_)
  obtain ⟨x3, ex3, h⟩ := wk_lt_e h
  refine lv_iinc (v := x3) (lv' := [(1, .int x3), (0, .ref (B 0 ch 0))]) hx hb dX0_passTick_44 hl (k := 1) rfl (by rw [← ex3]; rfl) (by decide) rfl (fun ls hl => ?_)
  refine lv_goto (tgt := 2) hx hb dX0_passTick_47 (by decide) ?_
  exact hk2 _ _ _ _ _ h (lv_sub hl [1, 0] rfl) hP hS
set_option maxRecDepth 100000 in
set_option maxHeartbeats 4000000 in
theorem w_X0_passTick_77 {ch : Nat} (CX : wk_X p l e R s m args below meth c cells slots Q cX0_passTick 2 RX0 wsX0_passTick D y B Lk A 2 48) (RT : wk_Rv p l e R s m args below meth c cells slots Q cX0_passTick D y B Lk A MM) (hc : ch < 7) : ∀ (n : Nat) (v1 : Int32) (M : wk_T) (H : Heap) (locs : List Loc) (ls : Array Slot), f_X0_passTick_77 ch n v1 M = some ((), MM) → lv_has ls 2 [(0, .ref (B 0 ch 0)), (1, .int v1)] → wk_H D y B Lk M H → va_S A s.heap H locs → W p l e R s m args below meth c H locs cells slots Q (F0 m 77 ls []) := by
  obtain ⟨⟨hx, hb, hml, hown, hts⟩, hK, hI, hL, hA, hfr, hlo, hcs⟩ := id CX
  obtain ⟨q1, q2, q3, q4⟩ := q_X0_passTick hts
  intro n
  induction n with
  | zero =>
    intro v1 M H locs ls h
    exact absurd h (by rw [f_X0_passTick_77]; exact fun z => nomatch z)
  | succ n ih =>
    intro v1 M H locs ls h hl hP hS
    rw [f_X0_passTick_77] at h
    refine lv_iload_n hx hb dX0_passTick_77 rfl (lv_at hl 1 rfl) ?_
    refine lv_aload_n hx hb dX0_passTick_78 rfl (lv_at hl 0 rfl) ?_
    refine wk_get (ref := "WokenRooms$Chip") (C := RX0) (T := TX0) (N := 8) (ci := 0) (v := .int (M 0 ch 0 1)) hx hb hts (fun _ h => List.mem_cons_of_mem _ (List.mem_append_left _ (List.mem_append_right _ h))) hown hK hP (wk_l0 hL hc 0 (by decide)) wk_c0 rfl 1 (by decide) q1 rfl rfl dX0_passTick_79 ?_
    refine lv_icmp_ge (tgt := 96) hx hb dX0_passTick_82 (by decide) (fun g1 => ?_) (fun g1 => ?_)
    · have h := wk_p g1 h
      refine lv_aload_n hx hb dX0_passTick_96 rfl (lv_at hl 0 rfl) ?_
      refine lv_dup hx hb dX0_passTick_97 rfl ?_
      refine wk_get (ref := "WokenRooms$Chip") (C := RX0) (T := TX0) (N := 8) (ci := 0) (v := .int (M 0 ch 0 7)) hx hb hts (fun _ h => List.mem_cons_of_mem _ (List.mem_append_left _ (List.mem_append_right _ h))) hown hK hP (wk_l0 hL hc 0 (by decide)) wk_c0 rfl 7 (by decide) q4 rfl rfl dX0_passTick_98 ?_
      refine lv_iconst (v := 1) hx hb dX0_passTick_101 (by decide) ?_
      refine lv_iadd hx hb dX0_passTick_102 ?_
      obtain ⟨M2, eM2, h⟩ := wk_mu_e h
      refine wk_put (ref := "WokenRooms$Chip") (C := RX0) (T := TX0) (N := 8) (ci := 0) hx hb hts (fun _ h => List.mem_cons_of_mem _ (List.mem_append_left _ (List.mem_append_right _ h))) tyX0 tyX0_ok nmX0 hown hK hP hI hS hA (wk_l0 hL hc 0 (by decide)) wk_c0 rfl 7 (by decide) q4 rfl rfl (by decide +kernel) (Nat.le_of_ble_eq_true rfl) (by rfl) dX0_passTick_103 (fun H locs hP hS => ?_)
      rw [eM2] at hP
      exact RT _ _ _ _ _ h hP hS dX0_passTick_106
    · have h := wk_n g1 h
      refine lv_aload_n hx hb dX0_passTick_85 rfl (lv_at hl 0 rfl) ?_
      refine lv_iload_n hx hb dX0_passTick_86 rfl (lv_at hl 1 rfl) ?_
      obtain ⟨r3, M4, er3, h⟩ := wk_cl_e h
      refine wk_cVv (As := [.int v1]) (rest := []) ⟨hx, hb, hml, hown, hts⟩ (m_X0_goOn l hI hL hc er3) (cwV 1 hts gX0_passTick_X0_goOn rfl rfl rfl (by decide +kernel) ⟨Nat.le_trans (by decide) hfr, Nat.le_trans (by decide) hlo⟩) hK hP hS hA (wk_l0 hL hc 0 (by decide)) wk_c0 rfl rfl hl.1 (lv_room (Nat.le_of_ble_eq_true rfl)) hcs dX0_passTick_87 (fun H locs hP hS => ?_)
      obtain ⟨x5, ex5, h⟩ := wk_lt_e h
      refine lv_iinc (v := x5) (lv' := [(1, .int x5), (0, .ref (B 0 ch 0))]) hx hb dX0_passTick_90 hl (k := 1) rfl (by rw [← ex5]; rfl) (by decide) rfl (fun ls hl => ?_)
      refine lv_goto (tgt := 77) hx hb dX0_passTick_93 (by decide) ?_
      exact ih _ _ _ _ _ h (lv_sub hl [1, 0] rfl) hP hS
set_option maxRecDepth 100000 in
set_option maxHeartbeats 4000000 in
theorem w_X0_passTick_52 {ch : Nat} (CX : wk_X p l e R s m args below meth c cells slots Q cX0_passTick 2 RX0 wsX0_passTick D y B Lk A 2 48) (RT : wk_Rv p l e R s m args below meth c cells slots Q cX0_passTick D y B Lk A MM) (hc : ch < 7) : ∀ (n : Nat) (v1 : Int32) (M : wk_T) (H : Heap) (locs : List Loc) (ls : Array Slot), f_X0_passTick_52 ch n v1 M = some ((), MM) → lv_has ls 2 [(0, .ref (B 0 ch 0)), (1, .int v1)] → wk_H D y B Lk M H → va_S A s.heap H locs → W p l e R s m args below meth c H locs cells slots Q (F0 m 52 ls []) := by
  obtain ⟨⟨hx, hb, hml, hown, hts⟩, hK, hI, hL, hA, hfr, hlo, hcs⟩ := id CX
  obtain ⟨q1, q2, q3, q4⟩ := q_X0_passTick hts
  intro n
  induction n with
  | zero =>
    intro v1 M H locs ls h
    exact absurd h (by rw [f_X0_passTick_52]; exact fun z => nomatch z)
  | succ n ih =>
    intro v1 M H locs ls h hl hP hS
    rw [f_X0_passTick_52] at h
    refine lv_iload_n hx hb dX0_passTick_52 rfl (lv_at hl 1 rfl) ?_
    refine lv_aload_n hx hb dX0_passTick_53 rfl (lv_at hl 0 rfl) ?_
    refine wk_get (ref := "WokenRooms$Chip") (C := RX0) (T := TX0) (N := 8) (ci := 0) (v := .int (M 0 ch 0 1)) hx hb hts (fun _ h => List.mem_cons_of_mem _ (List.mem_append_left _ (List.mem_append_right _ h))) hown hK hP (wk_l0 hL hc 0 (by decide)) wk_c0 rfl 1 (by decide) q1 rfl rfl dX0_passTick_54 ?_
    refine lv_icmp_ge (tgt := 75) hx hb dX0_passTick_57 (by decide) (fun g1 => ?_) (fun g1 => ?_)
    · have h := wk_p g1 h
      refine lv_iconst (v := 0) hx hb dX0_passTick_75 (by decide) ?_
      refine lv_istore_n (lv' := [(1, .int 0), (0, .ref (B 0 ch 0))]) hx hb dX0_passTick_76 rfl hl (by decide) rfl (fun ls hl => ?_)
      exact w_X0_passTick_77 CX RT hc wk_fuel _ _ _ _ _ h (lv_sub hl [1, 0] rfl) hP hS
    · have h := wk_n g1 h
      refine lv_aload_n hx hb dX0_passTick_60 rfl (lv_at hl 0 rfl) ?_
      refine wk_get (ref := "WokenRooms$Chip") (C := RX0) (T := TX0) (N := 8) (ci := 0) (v := .ref (B 1 ch 0)) hx hb hts (fun _ h => List.mem_cons_of_mem _ (List.mem_append_left _ (List.mem_append_right _ h))) hown hK hP (wk_l0 hL hc 0 (by decide)) wk_c0 rfl 0 (by decide) q2 rfl rfl dX0_passTick_61 ?_
      refine lv_iload_n hx hb dX0_passTick_64 rfl (lv_at hl 1 rfl) ?_
      obtain ⟨g2, h⟩ := wk_gd_e h
      refine wk_aaldR (j := v1.toNatClampNeg) hx hb hK hP (wk_l0 hL hc 1 (by decide)) g2 rfl dX0_passTick_65 ?_
      obtain ⟨r3, M4, er3, h⟩ := wk_cl_e h
      refine wk_cVv (As := []) (rest := []) ⟨hx, hb, hml, hown, hts⟩ (m_X2_payForTick l hI hL hc (wk_ix g2) er3) (cwV 0 hts gX0_passTick_X2_payForTick rfl rfl rfl (by decide +kernel) ⟨Nat.le_trans (by decide) hfr, Nat.le_trans (by decide) hlo⟩) hK hP hS hA (wk_l6 hL hc (wk_ix g2) 6 (by decide) (by decide)) wk_c6 rfl rfl hl.1 (lv_room (Nat.le_of_ble_eq_true rfl)) hcs dX0_passTick_66 (fun H locs hP hS => ?_)
      obtain ⟨x5, ex5, h⟩ := wk_lt_e h
      refine lv_iinc (v := x5) (lv' := [(1, .int x5), (0, .ref (B 0 ch 0))]) hx hb dX0_passTick_69 hl (k := 1) rfl (by rw [← ex5]; rfl) (by decide) rfl (fun ls hl => ?_)
      refine lv_goto (tgt := 52) hx hb dX0_passTick_72 (by decide) ?_
      exact ih _ _ _ _ _ h (lv_sub hl [1, 0] rfl) hP hS
set_option maxRecDepth 100000 in
set_option maxHeartbeats 4000000 in
theorem w_X0_passTick_2 {ch : Nat} (CX : wk_X p l e R s m args below meth c cells slots Q cX0_passTick 2 RX0 wsX0_passTick D y B Lk A 2 48) (RT : wk_Rv p l e R s m args below meth c cells slots Q cX0_passTick D y B Lk A MM) (hc : ch < 7) : ∀ (n : Nat) (v1 : Int32) (M : wk_T) (H : Heap) (locs : List Loc) (ls : Array Slot), f_X0_passTick_2 ch n v1 M = some ((), MM) → lv_has ls 2 [(0, .ref (B 0 ch 0)), (1, .int v1)] → wk_H D y B Lk M H → va_S A s.heap H locs → W p l e R s m args below meth c H locs cells slots Q (F0 m 2 ls []) := by
  obtain ⟨⟨hx, hb, hml, hown, hts⟩, hK, hI, hL, hA, hfr, hlo, hcs⟩ := id CX
  obtain ⟨q1, q2, q3, q4⟩ := q_X0_passTick hts
  intro n
  induction n with
  | zero =>
    intro v1 M H locs ls h
    exact absurd h (by rw [f_X0_passTick_2]; exact fun z => nomatch z)
  | succ n ih =>
    intro v1 M H locs ls h hl hP hS
    rw [f_X0_passTick_2] at h
    refine lv_iload_n hx hb dX0_passTick_2 rfl (lv_at hl 1 rfl) ?_
    refine lv_aload_n hx hb dX0_passTick_3 rfl (lv_at hl 0 rfl) ?_
    refine wk_get (ref := "WokenRooms$Chip") (C := RX0) (T := TX0) (N := 8) (ci := 0) (v := .int (M 0 ch 0 1)) hx hb hts (fun _ h => List.mem_cons_of_mem _ (List.mem_append_left _ (List.mem_append_right _ h))) hown hK hP (wk_l0 hL hc 0 (by decide)) wk_c0 rfl 1 (by decide) q1 rfl rfl dX0_passTick_4 ?_
    refine lv_icmp_ge (tgt := 50) hx hb dX0_passTick_7 (by decide) (fun g1 => ?_) (fun g1 => ?_)
    · have h := wk_p g1 h
      refine lv_iconst (v := 0) hx hb dX0_passTick_50 (by decide) ?_
      refine lv_istore_n (lv' := [(1, .int 0), (0, .ref (B 0 ch 0))]) hx hb dX0_passTick_51 rfl hl (by decide) rfl (fun ls hl => ?_)
      exact w_X0_passTick_52 CX RT hc wk_fuel _ _ _ _ _ h (lv_sub hl [1, 0] rfl) hP hS
    · have h := wk_n g1 h
      refine lv_aload_n hx hb dX0_passTick_10 rfl (lv_at hl 0 rfl) ?_
      refine wk_get (ref := "WokenRooms$Chip") (C := RX0) (T := TX0) (N := 8) (ci := 0) (v := .ref (B 1 ch 0)) hx hb hts (fun _ h => List.mem_cons_of_mem _ (List.mem_append_left _ (List.mem_append_right _ h))) hown hK hP (wk_l0 hL hc 0 (by decide)) wk_c0 rfl 0 (by decide) q2 rfl rfl dX0_passTick_11 ?_
      refine lv_iload_n hx hb dX0_passTick_14 rfl (lv_at hl 1 rfl) ?_
      obtain ⟨g2, h⟩ := wk_gd_e h
      refine wk_aaldR (j := v1.toNatClampNeg) hx hb hK hP (wk_l0 hL hc 1 (by decide)) g2 rfl dX0_passTick_15 ?_
      refine wk_get (ref := "WokenRooms$Room") (C := RX2) (T := TX2) (N := 15) (ci := 2) (v := .int (M 6 ch v1.toNatClampNeg 7)) hx hb hts (fun _ h => List.mem_cons_of_mem _ (List.mem_append_right _ h)) hown hK hP (wk_l6 hL hc (wk_ix g2) 6 (by decide) (by decide)) wk_c6 rfl 7 (by decide) q3 rfl rfl dX0_passTick_16 ?_
      refine lv_if_ne (tgt := 39) hx hb dX0_passTick_19 (by decide) (fun g3 => ?_) (fun g3 => ?_)
      · have h := wk_n g3 h
        exact w_X0_passTick_39 CX RT hc ih h (lv_sub hl [0, 1] rfl) hP hS
      · have h := wk_p g3 h
        refine lv_aload_n hx hb dX0_passTick_22 rfl (lv_at hl 0 rfl) ?_
        refine lv_iload_n hx hb dX0_passTick_23 rfl (lv_at hl 1 rfl) ?_
        obtain ⟨r4, M5, er4, h⟩ := wk_cl_e h
        refine wk_cVi (As := [.int v1]) (rest := []) ⟨hx, hb, hml, hown, hts⟩ (m_X0_isCalled l hI hL hc er4) (cwV 1 hts gX0_passTick_X0_isCalled rfl rfl rfl (by decide +kernel) ⟨Nat.le_trans (by decide) hfr, Nat.le_trans (by decide) hlo⟩) hK hP hS hA (wk_l0 hL hc 0 (by decide)) wk_c0 rfl rfl hl.1 (lv_room (Nat.le_of_ble_eq_true rfl)) hcs dX0_passTick_24 (fun H locs hP hS => ?_)
        refine lv_if_eq (tgt := 39) hx hb dX0_passTick_27 (by decide) (fun g6 => ?_) (fun g6 => ?_)
        · have h := wk_p g6 h
          exact w_X0_passTick_39 CX RT hc ih h (lv_sub hl [0, 1] rfl) hP hS
        · have h := wk_n g6 h
          refine lv_aload_n hx hb dX0_passTick_30 rfl (lv_at hl 0 rfl) ?_
          refine lv_aload_n hx hb dX0_passTick_31 rfl (lv_at hl 0 rfl) ?_
          refine lv_iload_n hx hb dX0_passTick_32 rfl (lv_at hl 1 rfl) ?_
          obtain ⟨r7, M8, er7, h⟩ := wk_cl_e h
          refine wk_cVi (As := [.int v1]) (rest := [.ref (B 0 ch 0)]) ⟨hx, hb, hml, hown, hts⟩ (m_X0_soughtFor l hI hL hc er7) (cwV 1 hts gX0_passTick_X0_soughtFor rfl rfl rfl (by decide +kernel) ⟨Nat.le_trans (by decide) hfr, Nat.le_trans (by decide) hlo⟩) hK hP hS hA (wk_l0 hL hc 0 (by decide)) wk_c0 rfl rfl hl.1 (lv_room (Nat.le_of_ble_eq_true rfl)) hcs dX0_passTick_33 (fun H locs hP hS => ?_)
          obtain ⟨r9, M10, er9, h⟩ := wk_cl_e h
          refine wk_cVv (As := [.int r7]) (rest := []) ⟨hx, hb, hml, hown, hts⟩ (m_X0_wakeIfPossible l hI hL hc er9) (cwV 1 hts gX0_passTick_X0_wakeIfPossible rfl rfl rfl (by decide +kernel) ⟨Nat.le_trans (by decide) hfr, Nat.le_trans (by decide) hlo⟩) hK hP hS hA (wk_l0 hL hc 0 (by decide)) wk_c0 rfl rfl hl.1 (lv_room (Nat.le_of_ble_eq_true rfl)) hcs dX0_passTick_36 (fun H locs hP hS => ?_)
          exact w_X0_passTick_39 CX RT hc ih h (lv_sub hl [0, 1] rfl) hP hS
set_option maxRecDepth 100000 in
set_option maxHeartbeats 4000000 in
theorem w_X0_passTick_0 {ch : Nat} (CX : wk_X p l e R s m args below meth c cells slots Q cX0_passTick 2 RX0 wsX0_passTick D y B Lk A 2 48) (RT : wk_Rv p l e R s m args below meth c cells slots Q cX0_passTick D y B Lk A MM) (hc : ch < 7) {M : wk_T} {H : Heap} {locs : List Loc} {ls : Array Slot} (h : f_X0_passTick ch M = some ((), MM)) (hl : lv_has ls 2 [(0, .ref (B 0 ch 0))]) (hP : wk_H D y B Lk M H) (hS : va_S A s.heap H locs) : W p l e R s m args below meth c H locs cells slots Q (F0 m 0 ls []) := by
  obtain ⟨⟨hx, hb, hml, hown, hts⟩, hK, hI, hL, hA, hfr, hlo, hcs⟩ := id CX
  obtain ⟨q1, q2, q3, q4⟩ := q_X0_passTick hts
  unfold f_X0_passTick at h
  refine lv_iconst (v := 0) hx hb dX0_passTick_0 (by decide) ?_
  refine lv_istore_n (lv' := [(1, .int 0), (0, .ref (B 0 ch 0))]) hx hb dX0_passTick_1 rfl hl (by decide) rfl (fun ls hl => ?_)
  exact w_X0_passTick_2 CX RT hc wk_fuel _ _ _ _ _ h (lv_sub hl [1, 0] rfl) hP hS
set_option maxRecDepth 100000 in
set_option maxHeartbeats 4000000 in
theorem m_X0_passTick (l : Launch) {D : va_G} {y : Nat → ClassId} {B : Nat → Nat → Nat → Nat} {Lk : Nat → Nat → Nat → Prop} (hI : wk_I B Lk) (hL : wk_L Lk) {ch : Nat} (hc : ch < 7) {M : wk_T} {MM : wk_T} (hf : f_X0_passTick ch M = some ((), MM)) : wk_Mv l yX0_passTick wsX0_passTick 2 48 D y B Lk [.ref (B 0 ch 0)] M MM :=
  wk_ofV (own := RX0) (bytes := cX0_passTick) (maxL := 2) (by decide +kernel) rfl rfl (Nat.le_of_ble_eq_true rfl) hI hL (fun p e s m args below meth c ls CX RT hl hP hS => w_X0_passTick_0 CX RT hc hf hl hP hS)
def f_X0_letTicksGoBy_34 (ch : Nat) : Nat → Int32 → Int32 → Int32 → wk_T → Option (Int32 × wk_T)
  | 0, _, _, _, _ => none
  | n + 1, v1, v2, v3, M => (if v1 ≤ v3 then wk_cl (f_X0_begunInAll ch M) (fun r2 M3 => (some ((r2 - v2), M3))) else wk_cl (f_X0_passTick ch M) (fun _ M5 => wk_lt (v3 + 1) (fun x6 => (f_X0_letTicksGoBy_34 ch n v1 v2 x6 M5))))
def f_X0_letTicksGoBy (ch : Nat) (v1 : Int32) (M : wk_T) : Option (Int32 × wk_T) := wk_cl (f_X3_outside v1 1 200 M) (fun r1 M2 => (if r1 = 0 then (if ((M2 0 ch 0 7) + v1) ≤ 50000 then wk_cl (f_X0_begunInAll ch M2) (fun r5 M6 => (f_X0_letTicksGoBy_34 ch wk_fuel v1 r5 0 M6)) else (some ((-3), M2))) else (some ((-1), M2))))
set_option maxRecDepth 20000 in
theorem q_X0_letTicksGoBy {s : State} {args : Array Value} (hts : ∀ w ∈ wsX0_letTicksGoBy, w.before args s = true) : (Cond.fieldLink RX0 48 "WokenRooms$Chip" "time" "I").before args s = true ∧ (Cond.constant RX0 104 (50000)).before args s = true ∧ (Cond.static yX3_outside).before args s = true ∧ (Cond.initialized RX3).before args s = true := ⟨hts _ (List.mem_of_getElem? (i := 1) rfl), hts _ (List.mem_of_getElem? (i := 2) rfl), hts _ (List.mem_of_getElem? (i := 3) rfl), hts _ (List.mem_of_getElem? (i := 4) rfl)⟩
set_option maxRecDepth 100000 in
set_option maxHeartbeats 4000000 in
theorem w_X0_letTicksGoBy_34 {ch : Nat} {r0 : Int32} (CX : wk_X p l e R s m args below meth c cells slots Q cX0_letTicksGoBy 4 RX0 wsX0_letTicksGoBy D y B Lk A 3 69) (RT : wk_Ri p l e R s m args below meth c cells slots Q cX0_letTicksGoBy D y B Lk A r0 MM) (hc : ch < 7) : ∀ (n : Nat) (v1 : Int32) (v2 : Int32) (v3 : Int32) (M : wk_T) (H : Heap) (locs : List Loc) (ls : Array Slot), f_X0_letTicksGoBy_34 ch n v1 v2 v3 M = some (r0, MM) → lv_has ls 4 [(0, .ref (B 0 ch 0)), (1, .int v1), (2, .int v2), (3, .int v3)] → wk_H D y B Lk M H → va_S A s.heap H locs → W p l e R s m args below meth c H locs cells slots Q (F0 m 34 ls []) := by
  obtain ⟨⟨hx, hb, hml, hown, hts⟩, hK, hI, hL, hA, hfr, hlo, hcs⟩ := id CX
  obtain ⟨q1, q2, q3, q4⟩ := q_X0_letTicksGoBy hts
  intro n
  induction n with
  | zero =>
    intro v1 v2 v3 M H locs ls h
    exact absurd h (by rw [f_X0_letTicksGoBy_34]; exact fun z => nomatch z)
  | succ n ih =>
    intro v1 v2 v3 M H locs ls h hl hP hS
    rw [f_X0_letTicksGoBy_34] at h
    refine lv_iload_n hx hb dX0_letTicksGoBy_34 rfl (lv_at hl 3 rfl) ?_
    refine lv_iload_n hx hb dX0_letTicksGoBy_35 rfl (lv_at hl 1 rfl) ?_
    refine lv_icmp_ge (tgt := 49) hx hb dX0_letTicksGoBy_36 (by decide) (fun g1 => ?_) (fun g1 => ?_)
    · have h := wk_p g1 h
      refine lv_aload_n hx hb dX0_letTicksGoBy_49 rfl (lv_at hl 0 rfl) ?_
      obtain ⟨r2, M3, er2, h⟩ := wk_cl_e h
      refine wk_cVi (As := []) (rest := []) ⟨hx, hb, hml, hown, hts⟩ (m_X0_begunInAll l hI hL hc er2) (cwV 0 hts gX0_letTicksGoBy_X0_begunInAll rfl rfl rfl (by decide +kernel) ⟨Nat.le_trans (by decide) hfr, Nat.le_trans (by decide) hlo⟩) hK hP hS hA (wk_l0 hL hc 0 (by decide)) wk_c0 rfl rfl hl.1 (lv_room (Nat.le_of_ble_eq_true rfl)) hcs dX0_letTicksGoBy_50 (fun H locs hP hS => ?_)
      refine lv_iload_n hx hb dX0_letTicksGoBy_53 rfl (lv_at hl 2 rfl) ?_
      refine lv_isub hx hb dX0_letTicksGoBy_54 ?_
      exact RT _ _ _ _ _ _ h hP hS dX0_letTicksGoBy_55
    · have h := wk_n g1 h
      refine lv_aload_n hx hb dX0_letTicksGoBy_39 rfl (lv_at hl 0 rfl) ?_
      obtain ⟨r4, M5, er4, h⟩ := wk_cl_e h
      refine wk_cVv (As := []) (rest := []) ⟨hx, hb, hml, hown, hts⟩ (m_X0_passTick l hI hL hc er4) (cwV 0 hts gX0_letTicksGoBy_X0_passTick rfl rfl rfl (by decide +kernel) ⟨Nat.le_trans (by decide) hfr, Nat.le_trans (by decide) hlo⟩) hK hP hS hA (wk_l0 hL hc 0 (by decide)) wk_c0 rfl rfl hl.1 (lv_room (Nat.le_of_ble_eq_true rfl)) hcs dX0_letTicksGoBy_40 (fun H locs hP hS => ?_)
      obtain ⟨x6, ex6, h⟩ := wk_lt_e h
      refine lv_iinc (v := x6) (lv' := [(3, .int x6), (0, .ref (B 0 ch 0)), (1, .int v1), (2, .int v2)]) hx hb dX0_letTicksGoBy_43 hl (k := 3) rfl (by rw [← ex6]; rfl) (by decide) rfl (fun ls hl => ?_)
      refine lv_goto (tgt := 34) hx hb dX0_letTicksGoBy_46 (by decide) ?_
      exact ih _ _ _ _ _ _ _ h (lv_sub hl [1, 2, 3, 0] rfl) hP hS
set_option maxRecDepth 100000 in
set_option maxHeartbeats 4000000 in
theorem w_X0_letTicksGoBy_0 {ch : Nat} {r0 : Int32} (CX : wk_X p l e R s m args below meth c cells slots Q cX0_letTicksGoBy 4 RX0 wsX0_letTicksGoBy D y B Lk A 3 69) (RT : wk_Ri p l e R s m args below meth c cells slots Q cX0_letTicksGoBy D y B Lk A r0 MM) (hc : ch < 7) {v1 : Int32} {M : wk_T} {H : Heap} {locs : List Loc} {ls : Array Slot} (h : f_X0_letTicksGoBy ch v1 M = some (r0, MM)) (hl : lv_has ls 4 [(0, .ref (B 0 ch 0)), (1, .int v1)]) (hP : wk_H D y B Lk M H) (hS : va_S A s.heap H locs) : W p l e R s m args below meth c H locs cells slots Q (F0 m 0 ls []) := by
  obtain ⟨⟨hx, hb, hml, hown, hts⟩, hK, hI, hL, hA, hfr, hlo, hcs⟩ := id CX
  obtain ⟨q1, q2, q3, q4⟩ := q_X0_letTicksGoBy hts
  unfold f_X0_letTicksGoBy at h
  refine lv_iload_n hx hb dX0_letTicksGoBy_0 rfl (lv_at hl 1 rfl) ?_
  refine lv_iconst (v := 1) hx hb dX0_letTicksGoBy_1 (by decide) ?_
  refine lv_sipush (v := 200) hx hb dX0_letTicksGoBy_2 (by decide) ?_
  obtain ⟨r1, M2, er1, h⟩ := wk_cl_e h
  refine wk_cNi (As := [.int v1, .int 1, .int 200]) (rest := []) ⟨hx, hb, hml, hown, hts⟩ (m_X3_outside l hI hL er1) (va_cnB 3 hts gX0_letTicksGoBy_X3_outside_n82 rfl rfl rfl hK.2 q4 (by decide +kernel) ⟨Nat.le_trans (by decide) hfr, Nat.le_trans (by decide) hlo⟩) q3 hK hP hS hA rfl hl.1 (lv_room (Nat.le_of_ble_eq_true rfl)) hcs dX0_letTicksGoBy_5 (fun H locs hP hS => ?_)
  refine lv_if_eq (tgt := 13) hx hb dX0_letTicksGoBy_8 (by decide) (fun g3 => ?_) (fun g3 => ?_)
  · have h := wk_p g3 h
    refine lv_aload_n hx hb dX0_letTicksGoBy_13 rfl (lv_at hl 0 rfl) ?_
    refine wk_get (ref := "WokenRooms$Chip") (C := RX0) (T := TX0) (N := 8) (ci := 0) (v := .int (M2 0 ch 0 7)) hx hb hts (fun _ h => List.mem_cons_of_mem _ (List.mem_append_left _ (List.mem_append_right _ h))) hown hK hP (wk_l0 hL hc 0 (by decide)) wk_c0 rfl 7 (by decide) q1 rfl rfl dX0_letTicksGoBy_14 ?_
    refine lv_iload_n hx hb dX0_letTicksGoBy_17 rfl (lv_at hl 1 rfl) ?_
    refine lv_iadd hx hb dX0_letTicksGoBy_18 ?_
    refine lv_ldc (v := 50000) hx hb hown q2 dX0_letTicksGoBy_19 ?_
    refine lv_icmp_le (tgt := 27) hx hb dX0_letTicksGoBy_21 (by decide) (fun g4 => ?_) (fun g4 => ?_)
    · have h := wk_p g4 h
      refine lv_aload_n hx hb dX0_letTicksGoBy_27 rfl (lv_at hl 0 rfl) ?_
      obtain ⟨r5, M6, er5, h⟩ := wk_cl_e h
      refine wk_cVi (As := []) (rest := []) ⟨hx, hb, hml, hown, hts⟩ (m_X0_begunInAll l hI hL hc er5) (cwV 0 hts gX0_letTicksGoBy_X0_begunInAll rfl rfl rfl (by decide +kernel) ⟨Nat.le_trans (by decide) hfr, Nat.le_trans (by decide) hlo⟩) hK hP hS hA (wk_l0 hL hc 0 (by decide)) wk_c0 rfl rfl hl.1 (lv_room (Nat.le_of_ble_eq_true rfl)) hcs dX0_letTicksGoBy_28 (fun H locs hP hS => ?_)
      refine lv_istore_n (lv' := [(2, .int r5), (0, .ref (B 0 ch 0)), (1, .int v1)]) hx hb dX0_letTicksGoBy_31 rfl hl (by decide) rfl (fun ls hl => ?_)
      refine lv_iconst (v := 0) hx hb dX0_letTicksGoBy_32 (by decide) ?_
      refine lv_istore_n (lv' := [(3, .int 0), (2, .int r5), (0, .ref (B 0 ch 0)), (1, .int v1)]) hx hb dX0_letTicksGoBy_33 rfl hl (by decide) rfl (fun ls hl => ?_)
      exact w_X0_letTicksGoBy_34 CX RT hc wk_fuel _ _ _ _ _ _ _ h (lv_sub hl [2, 3, 1, 0] rfl) hP hS
    · have h := wk_n g4 h
      refine lv_bipush (v := (-3)) hx hb dX0_letTicksGoBy_24 (by decide) ?_
      exact RT _ _ _ _ _ _ h hP hS dX0_letTicksGoBy_26
  · have h := wk_n g3 h
    refine lv_iconst (v := (-1)) hx hb dX0_letTicksGoBy_11 (by decide) ?_
    exact RT _ _ _ _ _ _ h hP hS dX0_letTicksGoBy_12
set_option maxRecDepth 100000 in
set_option maxHeartbeats 4000000 in
theorem m_X0_letTicksGoBy (l : Launch) {D : va_G} {y : Nat → ClassId} {B : Nat → Nat → Nat → Nat} {Lk : Nat → Nat → Nat → Prop} (hI : wk_I B Lk) (hL : wk_L Lk) {ch : Nat} (hc : ch < 7) {v1 : Int32} {M : wk_T} {r0 : Int32} {MM : wk_T} (hf : f_X0_letTicksGoBy ch v1 M = some (r0, MM)) : wk_Mi l yX0_letTicksGoBy wsX0_letTicksGoBy 3 69 D y B Lk [.ref (B 0 ch 0), .int v1] M r0 MM :=
  wk_ofI (own := RX0) (bytes := cX0_letTicksGoBy) (maxL := 4) (ret := some .int) (by decide +kernel) rfl rfl (Or.inl rfl) (Nat.le_of_ble_eq_true rfl) hI hL (fun p e s m args below meth c ls CX RTi RTz hl hP hS => w_X0_letTicksGoBy_0 CX (RTi rfl) hc hf hl hP hS)
end WP14
