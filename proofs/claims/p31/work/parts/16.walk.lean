/-! walks by program: L_low, L_first, L_due, L_called, L_ready, L_can, L_wake, L_drop, L_needed -/
section WP16
variable {p : Program} {l : Launch} {e : Env} {R : Room} {s : State} {m : MethodId} {args : Array Value} {below : List Frame} {meth : Method} {c : Code} {cells slots : Nat} {Q : State → Prop}
variable {D : va_G} {y : Nat → ClassId} {B : Nat → Nat → Nat → Nat} {Lk : Nat → Nat → Nat → Prop} {A : Nat → Prop} {MM : wk_T}
def f_L_low (v0 : Int32) (v1 : Int32) (M : wk_T) : Option (Int32 × wk_T) := wk_gd (¬ v1 = 0) ((some ((wk_rem (v0 &&& 2147483647) v1), M)))
set_option maxRecDepth 20000 in
theorem q_L_low {s : State} {args : Array Value} (hts : ∀ w ∈ wsL_low, w.before args s = true) : (Cond.constant RL 8 (2147483647)).before args s = true := hts _ (List.mem_of_getElem? (i := 1) rfl)
set_option maxRecDepth 100000 in
set_option maxHeartbeats 4000000 in
theorem w_L_low_0 {r0 : Int32} (CX : wk_X p l e R s m args below meth c cells slots Q cL_low 2 RL wsL_low D y B Lk A 0 0) (RT : wk_Ri p l e R s m args below meth c cells slots Q cL_low D y B Lk A r0 MM) {v0 : Int32} {v1 : Int32} {M : wk_T} {H : Heap} {locs : List Loc} {ls : Array Slot} (h : f_L_low v0 v1 M = some (r0, MM)) (hl : lv_has ls 2 [(0, .int v0), (1, .int v1)]) (hP : wk_H D y B Lk M H) (hS : va_S A s.heap H locs) : W p l e R s m args below meth c H locs cells slots Q (F0 m 0 ls []) := by
  obtain ⟨⟨hx, hb, hml, hown, hts⟩, hK, hI, hL, hA, hfr, hlo, hcs⟩ := id CX
  have q1 := q_L_low hts
  unfold f_L_low at h
  refine lv_iload_n hx hb dL_low_0 rfl (lv_at hl 0 rfl) ?_
  refine lv_ldc (v := 2147483647) hx hb hown q1 dL_low_1 ?_
  refine lv_iand hx hb dL_low_3 ?_
  refine lv_iload_n hx hb dL_low_4 rfl (lv_at hl 1 rfl) ?_
  obtain ⟨g1, h⟩ := wk_gd_e h
  refine wk_irem hx hb g1 dL_low_5 ?_
  exact RT _ _ _ _ _ _ h hP hS dL_low_6
set_option maxRecDepth 100000 in
set_option maxHeartbeats 4000000 in
theorem m_L_low (l : Launch) {D : va_G} {y : Nat → ClassId} {B : Nat → Nat → Nat → Nat} {Lk : Nat → Nat → Nat → Prop} (hI : wk_I B Lk) (hL : wk_L Lk) {v0 : Int32} {v1 : Int32} {M : wk_T} {r0 : Int32} {MM : wk_T} (hf : f_L_low v0 v1 M = some (r0, MM)) : wk_Mi l yL_low wsL_low 0 0 D y B Lk [.int v0, .int v1] M r0 MM :=
  wk_ofI (own := RL) (bytes := cL_low) (maxL := 2) (ret := some .int) (by decide +kernel) rfl rfl (Or.inl rfl) (Nat.le_of_ble_eq_true rfl) hI hL (fun p e s m args below meth c ls CX RTi RTz hl hP hS => w_L_low_0 CX (RTi rfl) hf hl hP hS)
def f_L_first_52 (k9 : Int32 → Int32 → Int32 → wk_T → Option (Int32 × wk_T)) (v2 : Int32) (v4 : Int32) (s0 : Int32) (M : wk_T) : Option (Int32 × wk_T) := wk_lt (v4 + (-1)) (fun x1 => (k9 v2 s0 x1 M))
def f_L_first_46 (k9 : Int32 → Int32 → Int32 → wk_T → Option (Int32 × wk_T)) (v2 : Int32) (v4 : Int32) (M : wk_T) : Option (Int32 × wk_T) := (f_L_first_52 k9 v2 v4 v4 M)
def f_L_first_51 (k9 : Int32 → Int32 → Int32 → wk_T → Option (Int32 × wk_T)) (v2 : Int32) (v3 : Int32) (v4 : Int32) (M : wk_T) : Option (Int32 × wk_T) := (f_L_first_52 k9 v2 v4 v3 M)
def f_L_first_9 : Nat → Int32 → Int32 → Int32 → wk_T → Option (Int32 × wk_T)
  | 0, _, _, _, _ => none
  | n + 1, v2, v3, v4, M => (if v4 < 0 then (some (v3, M)) else wk_gd (¬ ((3 * v4) < 0 ∨ 36 ≤ (3 * v4).toNatClampNeg)) ((if (M 18 0 0 ((3 * v4).toNatClampNeg)) = v2 then (if v3 < 0 then (f_L_first_46 (f_L_first_9 n) v2 v4 M) else wk_gd (¬ (((3 * v4) + 1) < 0 ∨ 36 ≤ ((3 * v4) + 1).toNatClampNeg)) (wk_gd (¬ (((3 * v3) + 1) < 0 ∨ 36 ≤ ((3 * v3) + 1).toNatClampNeg)) ((if (M 18 0 0 (((3 * v3) + 1).toNatClampNeg)) < (M 18 0 0 (((3 * v4) + 1).toNatClampNeg)) then (f_L_first_51 (f_L_first_9 n) v2 v3 v4 M) else (f_L_first_46 (f_L_first_9 n) v2 v4 M))))) else (f_L_first_51 (f_L_first_9 n) v2 v3 v4 M))))
def f_L_first (v2 : Int32) (M : wk_T) : Option (Int32 × wk_T) := wk_lt (((M 14 0 0 1) - 1)) (fun x1 => (f_L_first_9 wk_fuel v2 (-1) x1 M))
set_option maxRecDepth 100000 in
set_option maxHeartbeats 4000000 in
theorem w_L_first_52 {r0 : Int32} (CX : wk_X p l e R s m args below meth c cells slots Q cL_first 5 RL wsL_first D y B Lk A 0 0) (RT : wk_Ri p l e R s m args below meth c cells slots Q cL_first D y B Lk A r0 MM) {k9 : Int32 → Int32 → Int32 → wk_T → Option (Int32 × wk_T)} (hk9 : ∀ (v2 : Int32) (v3 : Int32) (v4 : Int32) (M : wk_T) (H : Heap) (locs : List Loc) (ls : Array Slot), k9 v2 v3 v4 M = some (r0, MM) → lv_has ls 5 [(1, .ref (B 18 0 0)), (2, .int v2), (3, .int v3), (4, .int v4)] → wk_H D y B Lk M H → va_S A s.heap H locs → W p l e R s m args below meth c H locs cells slots Q (F0 m 9 ls [])) {v2 : Int32} {v4 : Int32} {s0 : Int32} {M : wk_T} {H : Heap} {locs : List Loc} {ls : Array Slot} (h : f_L_first_52 k9 v2 v4 s0 M = some (r0, MM)) (hl : lv_has ls 5 [(1, .ref (B 18 0 0)), (2, .int v2), (4, .int v4)]) (hP : wk_H D y B Lk M H) (hS : va_S A s.heap H locs) : W p l e R s m args below meth c H locs cells slots Q (F0 m 52 ls [.int s0]) := by
  obtain ⟨⟨hx, hb, hml, hown, hts⟩, hK, hI, hL, hA, hfr, hlo, hcs⟩ := id CX
  unfold f_L_first_52 at h
  refine lv_istore_n (lv' := [(3, .int s0), (1, .ref (B 18 0 0)), (2, .int v2), (4, .int v4)]) hx hb dL_first_52 rfl hl (by decide) rfl (fun ls hl => ?_)
  obtain ⟨x1, ex1, h⟩ := wk_lt_e h
  refine lv_iinc (v := x1) (lv' := [(4, .int x1), (3, .int s0), (1, .ref (B 18 0 0)), (2, .int v2)]) hx hb dL_first_53 hl (k := 3) rfl (by rw [← ex1]; rfl) (by decide) rfl (fun ls hl => ?_)
  refine lv_goto (tgt := 9) hx hb dL_first_56 (by decide) ?_
  exact hk9 _ _ _ _ _ _ _ h (lv_sub hl [2, 3, 1, 0] rfl) hP hS
set_option maxRecDepth 100000 in
set_option maxHeartbeats 4000000 in
theorem w_L_first_46 {r0 : Int32} (CX : wk_X p l e R s m args below meth c cells slots Q cL_first 5 RL wsL_first D y B Lk A 0 0) (RT : wk_Ri p l e R s m args below meth c cells slots Q cL_first D y B Lk A r0 MM) {k9 : Int32 → Int32 → Int32 → wk_T → Option (Int32 × wk_T)} (hk9 : ∀ (v2 : Int32) (v3 : Int32) (v4 : Int32) (M : wk_T) (H : Heap) (locs : List Loc) (ls : Array Slot), k9 v2 v3 v4 M = some (r0, MM) → lv_has ls 5 [(1, .ref (B 18 0 0)), (2, .int v2), (3, .int v3), (4, .int v4)] → wk_H D y B Lk M H → va_S A s.heap H locs → W p l e R s m args below meth c H locs cells slots Q (F0 m 9 ls [])) {v2 : Int32} {v4 : Int32} {M : wk_T} {H : Heap} {locs : List Loc} {ls : Array Slot} (h : f_L_first_46 k9 v2 v4 M = some (r0, MM)) (hl : lv_has ls 5 [(1, .ref (B 18 0 0)), (2, .int v2), (4, .int v4)]) (hP : wk_H D y B Lk M H) (hS : va_S A s.heap H locs) : W p l e R s m args below meth c H locs cells slots Q (F0 m 46 ls []) := by
  obtain ⟨⟨hx, hb, hml, hown, hts⟩, hK, hI, hL, hA, hfr, hlo, hcs⟩ := id CX
  unfold f_L_first_46 at h
  refine lv_iload hx hb dL_first_46 (lv_at hl 2 rfl) ?_
  refine lv_goto (tgt := 52) hx hb dL_first_48 (by decide) ?_
  exact w_L_first_52 CX RT hk9 h (lv_sub hl [0, 1, 2] rfl) hP hS
set_option maxRecDepth 100000 in
set_option maxHeartbeats 4000000 in
theorem w_L_first_51 {r0 : Int32} (CX : wk_X p l e R s m args below meth c cells slots Q cL_first 5 RL wsL_first D y B Lk A 0 0) (RT : wk_Ri p l e R s m args below meth c cells slots Q cL_first D y B Lk A r0 MM) {k9 : Int32 → Int32 → Int32 → wk_T → Option (Int32 × wk_T)} (hk9 : ∀ (v2 : Int32) (v3 : Int32) (v4 : Int32) (M : wk_T) (H : Heap) (locs : List Loc) (ls : Array Slot), k9 v2 v3 v4 M = some (r0, MM) → lv_has ls 5 [(1, .ref (B 18 0 0)), (2, .int v2), (3, .int v3), (4, .int v4)] → wk_H D y B Lk M H → va_S A s.heap H locs → W p l e R s m args below meth c H locs cells slots Q (F0 m 9 ls [])) {v2 : Int32} {v3 : Int32} {v4 : Int32} {M : wk_T} {H : Heap} {locs : List Loc} {ls : Array Slot} (h : f_L_first_51 k9 v2 v3 v4 M = some (r0, MM)) (hl : lv_has ls 5 [(1, .ref (B 18 0 0)), (2, .int v2), (3, .int v3), (4, .int v4)]) (hP : wk_H D y B Lk M H) (hS : va_S A s.heap H locs) : W p l e R s m args below meth c H locs cells slots Q (F0 m 51 ls []) := by
  obtain ⟨⟨hx, hb, hml, hown, hts⟩, hK, hI, hL, hA, hfr, hlo, hcs⟩ := id CX
  unfold f_L_first_51 at h
  refine lv_iload_n hx hb dL_first_51 rfl (lv_at hl 2 rfl) ?_
  exact w_L_first_52 CX RT hk9 h (lv_sub hl [0, 1, 3] rfl) hP hS
set_option maxRecDepth 100000 in
set_option maxHeartbeats 4000000 in
theorem w_L_first_9 {r0 : Int32} (CX : wk_X p l e R s m args below meth c cells slots Q cL_first 5 RL wsL_first D y B Lk A 0 0) (RT : wk_Ri p l e R s m args below meth c cells slots Q cL_first D y B Lk A r0 MM) : ∀ (n : Nat) (v2 : Int32) (v3 : Int32) (v4 : Int32) (M : wk_T) (H : Heap) (locs : List Loc) (ls : Array Slot), f_L_first_9 n v2 v3 v4 M = some (r0, MM) → lv_has ls 5 [(1, .ref (B 18 0 0)), (2, .int v2), (3, .int v3), (4, .int v4)] → wk_H D y B Lk M H → va_S A s.heap H locs → W p l e R s m args below meth c H locs cells slots Q (F0 m 9 ls []) := by
  obtain ⟨⟨hx, hb, hml, hown, hts⟩, hK, hI, hL, hA, hfr, hlo, hcs⟩ := id CX
  intro n
  induction n with
  | zero =>
    intro v2 v3 v4 M H locs ls h
    exact absurd h (by rw [f_L_first_9]; exact fun z => nomatch z)
  | succ n ih =>
    intro v2 v3 v4 M H locs ls h hl hP hS
    rw [f_L_first_9] at h
    refine lv_iload hx hb dL_first_9 (lv_at hl 3 rfl) ?_
    refine lv_if_lt (tgt := 59) hx hb dL_first_11 (by decide) (fun g1 => ?_) (fun g1 => ?_)
    · have h := wk_p g1 h
      refine lv_iload_n hx hb dL_first_59 rfl (lv_at hl 2 rfl) ?_
      exact RT _ _ _ _ _ _ h hP hS dL_first_60
    · have h := wk_n g1 h
      refine lv_aload_n hx hb dL_first_14 rfl (lv_at hl 0 rfl) ?_
      refine lv_iconst (v := 3) hx hb dL_first_15 (by decide) ?_
      refine lv_iload hx hb dL_first_16 (lv_at hl 3 rfl) ?_
      refine lv_imul hx hb dL_first_18 ?_
      obtain ⟨g2, h⟩ := wk_gd_e h
      refine wk_iald (j := (3 * v4).toNatClampNeg) hx hb hK hP (wk_lL hL 18 (by decide) (by decide)) wk_c18 g2 rfl dL_first_19 ?_
      refine lv_iload_n hx hb dL_first_20 rfl (lv_at hl 1 rfl) ?_
      refine lv_icmp_ne (tgt := 51) hx hb dL_first_21 (by decide) (fun g3 => ?_) (fun g3 => ?_)
      · have h := wk_n g3 h
        exact w_L_first_51 CX RT ih h (lv_sub hl [0, 1, 2, 3] rfl) hP hS
      · have h := wk_p g3 h
        refine lv_iload_n hx hb dL_first_24 rfl (lv_at hl 2 rfl) ?_
        refine lv_if_lt (tgt := 46) hx hb dL_first_25 (by decide) (fun g4 => ?_) (fun g4 => ?_)
        · have h := wk_p g4 h
          exact w_L_first_46 CX RT ih h (lv_sub hl [0, 1, 3] rfl) hP hS
        · have h := wk_n g4 h
          refine lv_aload_n hx hb dL_first_28 rfl (lv_at hl 0 rfl) ?_
          refine lv_iconst (v := 3) hx hb dL_first_29 (by decide) ?_
          refine lv_iload hx hb dL_first_30 (lv_at hl 3 rfl) ?_
          refine lv_imul hx hb dL_first_32 ?_
          refine lv_iconst (v := 1) hx hb dL_first_33 (by decide) ?_
          refine lv_iadd hx hb dL_first_34 ?_
          obtain ⟨g5, h⟩ := wk_gd_e h
          refine wk_iald (j := ((3 * v4) + 1).toNatClampNeg) hx hb hK hP (wk_lL hL 18 (by decide) (by decide)) wk_c18 g5 rfl dL_first_35 ?_
          refine lv_aload_n hx hb dL_first_36 rfl (lv_at hl 0 rfl) ?_
          refine lv_iconst (v := 3) hx hb dL_first_37 (by decide) ?_
          refine lv_iload_n hx hb dL_first_38 rfl (lv_at hl 2 rfl) ?_
          refine lv_imul hx hb dL_first_39 ?_
          refine lv_iconst (v := 1) hx hb dL_first_40 (by decide) ?_
          refine lv_iadd hx hb dL_first_41 ?_
          obtain ⟨g6, h⟩ := wk_gd_e h
          refine wk_iald (j := ((3 * v3) + 1).toNatClampNeg) hx hb hK hP (wk_lL hL 18 (by decide) (by decide)) wk_c18 g6 rfl dL_first_42 ?_
          refine lv_icmp_gt (tgt := 51) hx hb dL_first_43 (by decide) (fun g7 => ?_) (fun g7 => ?_)
          · have h := wk_p g7 h
            exact w_L_first_51 CX RT ih h (lv_sub hl [0, 1, 2, 3] rfl) hP hS
          · have h := wk_n g7 h
            exact w_L_first_46 CX RT ih h (lv_sub hl [0, 1, 3] rfl) hP hS
set_option maxRecDepth 100000 in
set_option maxHeartbeats 4000000 in
theorem w_L_first_0 {r0 : Int32} (CX : wk_X p l e R s m args below meth c cells slots Q cL_first 5 RL wsL_first D y B Lk A 0 0) (RT : wk_Ri p l e R s m args below meth c cells slots Q cL_first D y B Lk A r0 MM) {v2 : Int32} {M : wk_T} {H : Heap} {locs : List Loc} {ls : Array Slot} (h : f_L_first v2 M = some (r0, MM)) (hl : lv_has ls 5 [(0, .ref (B 14 0 0)), (1, .ref (B 18 0 0)), (2, .int v2)]) (hP : wk_H D y B Lk M H) (hS : va_S A s.heap H locs) : W p l e R s m args below meth c H locs cells slots Q (F0 m 0 ls []) := by
  obtain ⟨⟨hx, hb, hml, hown, hts⟩, hK, hI, hL, hA, hfr, hlo, hcs⟩ := id CX
  unfold f_L_first at h
  refine lv_iconst (v := (-1)) hx hb dL_first_0 (by decide) ?_
  refine lv_istore_n (lv' := [(3, .int (-1)), (0, .ref (B 14 0 0)), (1, .ref (B 18 0 0)), (2, .int v2)]) hx hb dL_first_1 rfl hl (by decide) rfl (fun ls hl => ?_)
  refine lv_aload_n hx hb dL_first_2 rfl (lv_at hl 1 rfl) ?_
  refine lv_iconst (v := 1) hx hb dL_first_3 (by decide) ?_
  refine wk_iald (j := 1) hx hb hK hP (wk_lL hL 14 (by decide) (by decide)) wk_c14 (by decide) (by decide) dL_first_4 ?_
  refine lv_iconst (v := 1) hx hb dL_first_5 (by decide) ?_
  refine lv_isub hx hb dL_first_6 ?_
  obtain ⟨x1, ex1, h⟩ := wk_lt_e h
  refine wk_topi ex1 ?_
  refine lv_istore (lv' := [(4, .int x1), (3, .int (-1)), (0, .ref (B 14 0 0)), (1, .ref (B 18 0 0)), (2, .int v2)]) hx hb dL_first_7 hl (by decide) rfl (fun ls hl => ?_)
  exact w_L_first_9 CX RT wk_fuel _ _ _ _ _ _ _ h (lv_sub hl [3, 4, 1, 0] rfl) hP hS
set_option maxRecDepth 100000 in
set_option maxHeartbeats 4000000 in
theorem m_L_first (l : Launch) {D : va_G} {y : Nat → ClassId} {B : Nat → Nat → Nat → Nat} {Lk : Nat → Nat → Nat → Prop} (hI : wk_I B Lk) (hL : wk_L Lk) {v2 : Int32} {M : wk_T} {r0 : Int32} {MM : wk_T} (hf : f_L_first v2 M = some (r0, MM)) : wk_Mi l yL_first wsL_first 0 0 D y B Lk [.ref (B 14 0 0), .ref (B 18 0 0), .int v2] M r0 MM :=
  wk_ofI (own := RL) (bytes := cL_first) (maxL := 5) (ret := some .int) (by decide +kernel) rfl rfl (Or.inl rfl) (Nat.le_of_ble_eq_true rfl) hI hL (fun p e s m args below meth c ls CX RTi RTz hl hP hS => w_L_first_0 CX (RTi rfl) hf hl hP hS)
def f_L_due (v2 : Int32) (v3 : Int32) (M : wk_T) : Option (Int32 × wk_T) := wk_cl (f_L_first v2 M) (fun r1 M2 => (if r1 < 0 then (some (0, M2)) else wk_gd (¬ (((3 * r1) + 1) < 0 ∨ 36 ≤ ((3 * r1) + 1).toNatClampNeg)) ((if (M2 14 0 0 2) < ((M2 18 0 0 (((3 * r1) + 1).toNatClampNeg)) - v3) then (some (0, M2)) else (some (1, M2))))))
set_option maxRecDepth 100000 in
set_option maxHeartbeats 4000000 in
theorem w_L_due_0 {r0 : Int32} (CX : wk_X p l e R s m args below meth c cells slots Q cL_due 5 RL wsL_due D y B Lk A 1 24) (RT : wk_Rz p l e R s m args below meth c cells slots Q cL_due D y B Lk A r0 MM) {v2 : Int32} {v3 : Int32} {M : wk_T} {H : Heap} {locs : List Loc} {ls : Array Slot} (h : f_L_due v2 v3 M = some (r0, MM)) (hl : lv_has ls 5 [(0, .ref (B 14 0 0)), (1, .ref (B 18 0 0)), (2, .int v2), (3, .int v3)]) (hP : wk_H D y B Lk M H) (hS : va_S A s.heap H locs) : W p l e R s m args below meth c H locs cells slots Q (F0 m 0 ls []) := by
  obtain ⟨⟨hx, hb, hml, hown, hts⟩, hK, hI, hL, hA, hfr, hlo, hcs⟩ := id CX
  unfold f_L_due at h
  refine lv_aload_n hx hb dL_due_0 rfl (lv_at hl 0 rfl) ?_
  refine lv_aload_n hx hb dL_due_1 rfl (lv_at hl 1 rfl) ?_
  refine lv_iload_n hx hb dL_due_2 rfl (lv_at hl 2 rfl) ?_
  obtain ⟨r1, M2, er1, h⟩ := wk_cl_e h
  refine wk_cSi (As := [.ref (B 14 0 0), .ref (B 18 0 0), .int v2]) (rest := []) ⟨hx, hb, hml, hown, hts⟩ (m_L_first l hI hL er1) (va_cwS 3 hts gL_due_L_first rfl rfl rfl (by decide +kernel) ⟨Nat.le_trans (by decide) hfr, Nat.le_trans (by decide) hlo⟩) hK hP hS hA rfl hl.1 (lv_room (Nat.le_of_ble_eq_true rfl)) hcs dL_due_3 (fun H locs hP hS => ?_)
  refine lv_istore (lv' := [(4, .int r1), (0, .ref (B 14 0 0)), (1, .ref (B 18 0 0)), (2, .int v2), (3, .int v3)]) hx hb dL_due_6 hl (by decide) rfl (fun ls hl => ?_)
  refine lv_iload hx hb dL_due_8 (lv_at hl 0 rfl) ?_
  refine lv_if_lt (tgt := 33) hx hb dL_due_10 (by decide) (fun g3 => ?_) (fun g3 => ?_)
  · have h := wk_p g3 h
    refine lv_iconst (v := 0) hx hb dL_due_33 (by decide) ?_
    exact RT _ _ _ _ _ _ (Or.inl rfl) h hP hS dL_due_34
  · have h := wk_n g3 h
    refine lv_aload_n hx hb dL_due_13 rfl (lv_at hl 2 rfl) ?_
    refine lv_iconst (v := 3) hx hb dL_due_14 (by decide) ?_
    refine lv_iload hx hb dL_due_15 (lv_at hl 0 rfl) ?_
    refine lv_imul hx hb dL_due_17 ?_
    refine lv_iconst (v := 1) hx hb dL_due_18 (by decide) ?_
    refine lv_iadd hx hb dL_due_19 ?_
    obtain ⟨g4, h⟩ := wk_gd_e h
    refine wk_iald (j := ((3 * r1) + 1).toNatClampNeg) hx hb hK hP (wk_lL hL 18 (by decide) (by decide)) wk_c18 g4 rfl dL_due_20 ?_
    refine lv_iload_n hx hb dL_due_21 rfl (lv_at hl 4 rfl) ?_
    refine lv_isub hx hb dL_due_22 ?_
    refine lv_aload_n hx hb dL_due_23 rfl (lv_at hl 1 rfl) ?_
    refine lv_iconst (v := 2) hx hb dL_due_24 (by decide) ?_
    refine wk_iald (j := 2) hx hb hK hP (wk_lL hL 14 (by decide) (by decide)) wk_c14 (by decide) (by decide) dL_due_25 ?_
    refine lv_icmp_gt (tgt := 33) hx hb dL_due_26 (by decide) (fun g5 => ?_) (fun g5 => ?_)
    · have h := wk_p g5 h
      refine lv_iconst (v := 0) hx hb dL_due_33 (by decide) ?_
      exact RT _ _ _ _ _ _ (Or.inl rfl) h hP hS dL_due_34
    · have h := wk_n g5 h
      refine lv_iconst (v := 1) hx hb dL_due_29 (by decide) ?_
      refine lv_goto (tgt := 34) hx hb dL_due_30 (by decide) ?_
      exact RT _ _ _ _ _ _ (Or.inr rfl) h hP hS dL_due_34
set_option maxRecDepth 100000 in
set_option maxHeartbeats 4000000 in
theorem m_L_due (l : Launch) {D : va_G} {y : Nat → ClassId} {B : Nat → Nat → Nat → Nat} {Lk : Nat → Nat → Nat → Prop} (hI : wk_I B Lk) (hL : wk_L Lk) {v2 : Int32} {v3 : Int32} {M : wk_T} {r0 : Int32} {MM : wk_T} (hf : f_L_due v2 v3 M = some (r0, MM)) : wk_Mi l yL_due wsL_due 1 24 D y B Lk [.ref (B 14 0 0), .ref (B 18 0 0), .int v2, .int v3] M r0 MM :=
  wk_ofI (own := RL) (bytes := cL_due) (maxL := 5) (ret := some .boolean) (by decide +kernel) rfl rfl (Or.inr rfl) (Nat.le_of_ble_eq_true rfl) hI hL (fun p e s m args below meth c ls CX RTi RTz hl hP hS => w_L_due_0 CX (RTz rfl) hf hl hP hS)
def f_L_called_31 (v5 : Int32) (s2 : Int32) (s3 : Int32) (M : wk_T) : Option (Int32 × wk_T) := wk_cl (f_L_due s2 s3 M) (fun r1 M2 => (if r1 = 0 then wk_gd (¬ (((8 * v5) + 4) < 0 ∨ 64 ≤ ((8 * v5) + 4).toNatClampNeg)) ((if (M2 16 0 0 (((8 * v5) + 4).toNatClampNeg)) = 2 then wk_gd (¬ (((8 * v5) + 5) < 0 ∨ 64 ≤ ((8 * v5) + 5).toNatClampNeg)) ((if (M2 16 0 0 (((8 * v5) + 5).toNatClampNeg)) ≤ 1 then (some (0, M2)) else wk_gd (¬ ((8 * v5) < 0 ∨ 64 ≤ (8 * v5).toNatClampNeg)) ((if (M2 16 0 0 ((8 * v5).toNatClampNeg)) = 3 then (some (0, M2)) else wk_gd (¬ ((32 + (2 * v5)) < 0 ∨ 48 ≤ (32 + (2 * v5)).toNatClampNeg)) (wk_gd (¬ ((33 + (2 * v5)) < 0 ∨ 48 ≤ (33 + (2 * v5)).toNatClampNeg)) (wk_gd (¬ (((8 * v5) + 2) < 0 ∨ 64 ≤ ((8 * v5) + 2).toNatClampNeg)) ((if (M2 14 0 0 2) = (((M2 17 0 0 ((32 + (2 * v5)).toNatClampNeg)) + (M2 17 0 0 ((33 + (2 * v5)).toNatClampNeg))) - (M2 15 0 0 (((8 * v5) + 2).toNatClampNeg))) then (some (1, M2)) else (some (0, M2)))))))))) else (some (0, M2)))) else (some (1, M2))))
def f_L_called (v5 : Int32) (M : wk_T) : Option (Int32 × wk_T) := wk_gd (¬ (((8 * v5) + 4) < 0 ∨ 64 ≤ ((8 * v5) + 4).toNatClampNeg)) ((if (M 16 0 0 (((8 * v5) + 4).toNatClampNeg)) = 1 then wk_gd (¬ (((8 * v5) + 2) < 0 ∨ 64 ≤ ((8 * v5) + 2).toNatClampNeg)) ((f_L_called_31 v5 v5 (M 15 0 0 (((8 * v5) + 2).toNatClampNeg)) M)) else (f_L_called_31 v5 v5 0 M)))
set_option maxRecDepth 100000 in
set_option maxHeartbeats 4000000 in
theorem w_L_called_31 {r0 : Int32} (CX : wk_X p l e R s m args below meth c cells slots Q cL_called 6 RL wsL_called D y B Lk A 2 48) (RT : wk_Rz p l e R s m args below meth c cells slots Q cL_called D y B Lk A r0 MM) {v5 : Int32} {s2 : Int32} {s3 : Int32} {M : wk_T} {H : Heap} {locs : List Loc} {ls : Array Slot} (h : f_L_called_31 v5 s2 s3 M = some (r0, MM)) (hl : lv_has ls 6 [(0, .ref (B 14 0 0)), (1, .ref (B 15 0 0)), (2, .ref (B 16 0 0)), (3, .ref (B 17 0 0)), (5, .int v5)]) (hP : wk_H D y B Lk M H) (hS : va_S A s.heap H locs) : W p l e R s m args below meth c H locs cells slots Q (F0 m 31 ls [.int s3, .int s2, .ref (B 18 0 0), .ref (B 14 0 0)]) := by
  obtain ⟨⟨hx, hb, hml, hown, hts⟩, hK, hI, hL, hA, hfr, hlo, hcs⟩ := id CX
  unfold f_L_called_31 at h
  obtain ⟨r1, M2, er1, h⟩ := wk_cl_e h
  refine wk_cSi (As := [.ref (B 14 0 0), .ref (B 18 0 0), .int s2, .int s3]) (rest := []) ⟨hx, hb, hml, hown, hts⟩ (m_L_due l hI hL er1) (va_cwS 4 hts gL_called_L_due rfl rfl rfl (by decide +kernel) ⟨Nat.le_trans (by decide) hfr, Nat.le_trans (by decide) hlo⟩) hK hP hS hA rfl hl.1 (lv_room (Nat.le_of_ble_eq_true rfl)) hcs dL_called_31 (fun H locs hP hS => ?_)
  refine lv_if_eq (tgt := 39) hx hb dL_called_34 (by decide) (fun g3 => ?_) (fun g3 => ?_)
  · have h := wk_p g3 h
    refine lv_aload_n hx hb dL_called_39 rfl (lv_at hl 2 rfl) ?_
    refine lv_bipush (v := 8) hx hb dL_called_40 (by decide) ?_
    refine lv_iload hx hb dL_called_42 (lv_at hl 4 rfl) ?_
    refine lv_imul hx hb dL_called_44 ?_
    refine lv_iconst (v := 4) hx hb dL_called_45 (by decide) ?_
    refine lv_iadd hx hb dL_called_46 ?_
    obtain ⟨g4, h⟩ := wk_gd_e h
    refine wk_iald (j := ((8 * v5) + 4).toNatClampNeg) hx hb hK hP (wk_lL hL 16 (by decide) (by decide)) wk_c16 g4 rfl dL_called_47 ?_
    refine lv_iconst (v := 2) hx hb dL_called_48 (by decide) ?_
    refine lv_icmp_ne (tgt := 115) hx hb dL_called_49 (by decide) (fun g5 => ?_) (fun g5 => ?_)
    · have h := wk_n g5 h
      refine lv_iconst (v := 0) hx hb dL_called_115 (by decide) ?_
      exact RT _ _ _ _ _ _ (Or.inl rfl) h hP hS dL_called_116
    · have h := wk_p g5 h
      refine lv_aload_n hx hb dL_called_52 rfl (lv_at hl 2 rfl) ?_
      refine lv_bipush (v := 8) hx hb dL_called_53 (by decide) ?_
      refine lv_iload hx hb dL_called_55 (lv_at hl 4 rfl) ?_
      refine lv_imul hx hb dL_called_57 ?_
      refine lv_iconst (v := 5) hx hb dL_called_58 (by decide) ?_
      refine lv_iadd hx hb dL_called_59 ?_
      obtain ⟨g6, h⟩ := wk_gd_e h
      refine wk_iald (j := ((8 * v5) + 5).toNatClampNeg) hx hb hK hP (wk_lL hL 16 (by decide) (by decide)) wk_c16 g6 rfl dL_called_60 ?_
      refine lv_iconst (v := 1) hx hb dL_called_61 (by decide) ?_
      refine lv_icmp_le (tgt := 115) hx hb dL_called_62 (by decide) (fun g7 => ?_) (fun g7 => ?_)
      · have h := wk_p g7 h
        refine lv_iconst (v := 0) hx hb dL_called_115 (by decide) ?_
        exact RT _ _ _ _ _ _ (Or.inl rfl) h hP hS dL_called_116
      · have h := wk_n g7 h
        refine lv_aload_n hx hb dL_called_65 rfl (lv_at hl 2 rfl) ?_
        refine lv_bipush (v := 8) hx hb dL_called_66 (by decide) ?_
        refine lv_iload hx hb dL_called_68 (lv_at hl 4 rfl) ?_
        refine lv_imul hx hb dL_called_70 ?_
        obtain ⟨g8, h⟩ := wk_gd_e h
        refine wk_iald (j := (8 * v5).toNatClampNeg) hx hb hK hP (wk_lL hL 16 (by decide) (by decide)) wk_c16 g8 rfl dL_called_71 ?_
        refine lv_iconst (v := 3) hx hb dL_called_72 (by decide) ?_
        refine lv_icmp_eq (tgt := 115) hx hb dL_called_73 (by decide) (fun g9 => ?_) (fun g9 => ?_)
        · have h := wk_p g9 h
          refine lv_iconst (v := 0) hx hb dL_called_115 (by decide) ?_
          exact RT _ _ _ _ _ _ (Or.inl rfl) h hP hS dL_called_116
        · have h := wk_n g9 h
          refine lv_aload_n hx hb dL_called_76 rfl (lv_at hl 0 rfl) ?_
          refine lv_iconst (v := 2) hx hb dL_called_77 (by decide) ?_
          refine wk_iald (j := 2) hx hb hK hP (wk_lL hL 14 (by decide) (by decide)) wk_c14 (by decide) (by decide) dL_called_78 ?_
          refine lv_aload_n hx hb dL_called_79 rfl (lv_at hl 3 rfl) ?_
          refine lv_bipush (v := 32) hx hb dL_called_80 (by decide) ?_
          refine lv_iconst (v := 2) hx hb dL_called_82 (by decide) ?_
          refine lv_iload hx hb dL_called_83 (lv_at hl 4 rfl) ?_
          refine lv_imul hx hb dL_called_85 ?_
          refine lv_iadd hx hb dL_called_86 ?_
          obtain ⟨g10, h⟩ := wk_gd_e h
          refine wk_iald (j := (32 + (2 * v5)).toNatClampNeg) hx hb hK hP (wk_lL hL 17 (by decide) (by decide)) wk_c17 g10 rfl dL_called_87 ?_
          refine lv_aload_n hx hb dL_called_88 rfl (lv_at hl 3 rfl) ?_
          refine lv_bipush (v := 33) hx hb dL_called_89 (by decide) ?_
          refine lv_iconst (v := 2) hx hb dL_called_91 (by decide) ?_
          refine lv_iload hx hb dL_called_92 (lv_at hl 4 rfl) ?_
          refine lv_imul hx hb dL_called_94 ?_
          refine lv_iadd hx hb dL_called_95 ?_
          obtain ⟨g11, h⟩ := wk_gd_e h
          refine wk_iald (j := (33 + (2 * v5)).toNatClampNeg) hx hb hK hP (wk_lL hL 17 (by decide) (by decide)) wk_c17 g11 rfl dL_called_96 ?_
          refine lv_iadd hx hb dL_called_97 ?_
          refine lv_aload_n hx hb dL_called_98 rfl (lv_at hl 1 rfl) ?_
          refine lv_bipush (v := 8) hx hb dL_called_99 (by decide) ?_
          refine lv_iload hx hb dL_called_101 (lv_at hl 4 rfl) ?_
          refine lv_imul hx hb dL_called_103 ?_
          refine lv_iconst (v := 2) hx hb dL_called_104 (by decide) ?_
          refine lv_iadd hx hb dL_called_105 ?_
          obtain ⟨g12, h⟩ := wk_gd_e h
          refine wk_iald (j := ((8 * v5) + 2).toNatClampNeg) hx hb hK hP (wk_lL hL 15 (by decide) (by decide)) wk_c15 g12 rfl dL_called_106 ?_
          refine lv_isub hx hb dL_called_107 ?_
          refine lv_icmp_ne (tgt := 115) hx hb dL_called_108 (by decide) (fun g13 => ?_) (fun g13 => ?_)
          · have h := wk_n g13 h
            refine lv_iconst (v := 0) hx hb dL_called_115 (by decide) ?_
            exact RT _ _ _ _ _ _ (Or.inl rfl) h hP hS dL_called_116
          · have h := wk_p g13 h
            refine lv_iconst (v := 1) hx hb dL_called_111 (by decide) ?_
            refine lv_goto (tgt := 116) hx hb dL_called_112 (by decide) ?_
            exact RT _ _ _ _ _ _ (Or.inr rfl) h hP hS dL_called_116
  · have h := wk_n g3 h
    refine lv_iconst (v := 1) hx hb dL_called_37 (by decide) ?_
    exact RT _ _ _ _ _ _ (Or.inr rfl) h hP hS dL_called_38
set_option maxRecDepth 100000 in
set_option maxHeartbeats 4000000 in
theorem w_L_called_0 {r0 : Int32} (CX : wk_X p l e R s m args below meth c cells slots Q cL_called 6 RL wsL_called D y B Lk A 2 48) (RT : wk_Rz p l e R s m args below meth c cells slots Q cL_called D y B Lk A r0 MM) {v5 : Int32} {M : wk_T} {H : Heap} {locs : List Loc} {ls : Array Slot} (h : f_L_called v5 M = some (r0, MM)) (hl : lv_has ls 6 [(0, .ref (B 14 0 0)), (1, .ref (B 15 0 0)), (2, .ref (B 16 0 0)), (3, .ref (B 17 0 0)), (4, .ref (B 18 0 0)), (5, .int v5)]) (hP : wk_H D y B Lk M H) (hS : va_S A s.heap H locs) : W p l e R s m args below meth c H locs cells slots Q (F0 m 0 ls []) := by
  obtain ⟨⟨hx, hb, hml, hown, hts⟩, hK, hI, hL, hA, hfr, hlo, hcs⟩ := id CX
  unfold f_L_called at h
  refine lv_aload_n hx hb dL_called_0 rfl (lv_at hl 0 rfl) ?_
  refine lv_aload hx hb dL_called_1 (lv_at hl 4 rfl) ?_
  refine lv_iload hx hb dL_called_3 (lv_at hl 5 rfl) ?_
  refine lv_aload_n hx hb dL_called_5 rfl (lv_at hl 2 rfl) ?_
  refine lv_bipush (v := 8) hx hb dL_called_6 (by decide) ?_
  refine lv_iload hx hb dL_called_8 (lv_at hl 5 rfl) ?_
  refine lv_imul hx hb dL_called_10 ?_
  refine lv_iconst (v := 4) hx hb dL_called_11 (by decide) ?_
  refine lv_iadd hx hb dL_called_12 ?_
  obtain ⟨g1, h⟩ := wk_gd_e h
  refine wk_iald (j := ((8 * v5) + 4).toNatClampNeg) hx hb hK hP (wk_lL hL 16 (by decide) (by decide)) wk_c16 g1 rfl dL_called_13 ?_
  refine lv_iconst (v := 1) hx hb dL_called_14 (by decide) ?_
  refine lv_icmp_ne (tgt := 30) hx hb dL_called_15 (by decide) (fun g2 => ?_) (fun g2 => ?_)
  · have h := wk_n g2 h
    refine lv_iconst (v := 0) hx hb dL_called_30 (by decide) ?_
    exact w_L_called_31 CX RT h (lv_sub hl [0, 1, 2, 3, 5] rfl) hP hS
  · have h := wk_p g2 h
    refine lv_aload_n hx hb dL_called_18 rfl (lv_at hl 1 rfl) ?_
    refine lv_bipush (v := 8) hx hb dL_called_19 (by decide) ?_
    refine lv_iload hx hb dL_called_21 (lv_at hl 5 rfl) ?_
    refine lv_imul hx hb dL_called_23 ?_
    refine lv_iconst (v := 2) hx hb dL_called_24 (by decide) ?_
    refine lv_iadd hx hb dL_called_25 ?_
    obtain ⟨g3, h⟩ := wk_gd_e h
    refine wk_iald (j := ((8 * v5) + 2).toNatClampNeg) hx hb hK hP (wk_lL hL 15 (by decide) (by decide)) wk_c15 g3 rfl dL_called_26 ?_
    refine lv_goto (tgt := 31) hx hb dL_called_27 (by decide) ?_
    exact w_L_called_31 CX RT h (lv_sub hl [0, 1, 2, 3, 5] rfl) hP hS
set_option maxRecDepth 100000 in
set_option maxHeartbeats 4000000 in
theorem m_L_called (l : Launch) {D : va_G} {y : Nat → ClassId} {B : Nat → Nat → Nat → Nat} {Lk : Nat → Nat → Nat → Prop} (hI : wk_I B Lk) (hL : wk_L Lk) {v5 : Int32} {M : wk_T} {r0 : Int32} {MM : wk_T} (hf : f_L_called v5 M = some (r0, MM)) : wk_Mi l yL_called wsL_called 2 48 D y B Lk [.ref (B 14 0 0), .ref (B 15 0 0), .ref (B 16 0 0), .ref (B 17 0 0), .ref (B 18 0 0), .int v5] M r0 MM :=
  wk_ofI (own := RL) (bytes := cL_called) (maxL := 6) (ret := some .boolean) (by decide +kernel) rfl rfl (Or.inr rfl) (Nat.le_of_ble_eq_true rfl) hI hL (fun p e s m args below meth c ls CX RTi RTz hl hP hS => w_L_called_0 CX (RTz rfl) hf hl hP hS)
def f_L_ready (v2 : Int32) (M : wk_T) : Option (Int32 × wk_T) := wk_gd (¬ (((8 * v2) + 6) < 0 ∨ 64 ≤ ((8 * v2) + 6).toNatClampNeg)) ((if (M 15 0 0 (((8 * v2) + 6).toNatClampNeg)) < 0 then (some (1, M)) else wk_gd (¬ (((8 * v2) + 6) < 0 ∨ 64 ≤ ((8 * v2) + 6).toNatClampNeg)) (wk_gd (¬ ((8 * (M 15 0 0 (((8 * v2) + 6).toNatClampNeg))) < 0 ∨ 64 ≤ (8 * (M 15 0 0 (((8 * v2) + 6).toNatClampNeg))).toNatClampNeg)) ((if (M 16 0 0 ((8 * (M 15 0 0 (((8 * v2) + 6).toNatClampNeg))).toNatClampNeg)) ≤ 1 then (some (0, M)) else (some (1, M)))))))
set_option maxRecDepth 100000 in
set_option maxHeartbeats 4000000 in
theorem w_L_ready_0 {r0 : Int32} (CX : wk_X p l e R s m args below meth c cells slots Q cL_ready 3 RL wsL_ready D y B Lk A 0 0) (RT : wk_Rz p l e R s m args below meth c cells slots Q cL_ready D y B Lk A r0 MM) {v2 : Int32} {M : wk_T} {H : Heap} {locs : List Loc} {ls : Array Slot} (h : f_L_ready v2 M = some (r0, MM)) (hl : lv_has ls 3 [(0, .ref (B 15 0 0)), (1, .ref (B 16 0 0)), (2, .int v2)]) (hP : wk_H D y B Lk M H) (hS : va_S A s.heap H locs) : W p l e R s m args below meth c H locs cells slots Q (F0 m 0 ls []) := by
  obtain ⟨⟨hx, hb, hml, hown, hts⟩, hK, hI, hL, hA, hfr, hlo, hcs⟩ := id CX
  unfold f_L_ready at h
  refine lv_aload_n hx hb dL_ready_0 rfl (lv_at hl 0 rfl) ?_
  refine lv_bipush (v := 8) hx hb dL_ready_1 (by decide) ?_
  refine lv_iload_n hx hb dL_ready_3 rfl (lv_at hl 2 rfl) ?_
  refine lv_imul hx hb dL_ready_4 ?_
  refine lv_bipush (v := 6) hx hb dL_ready_5 (by decide) ?_
  refine lv_iadd hx hb dL_ready_7 ?_
  obtain ⟨g1, h⟩ := wk_gd_e h
  refine wk_iald (j := ((8 * v2) + 6).toNatClampNeg) hx hb hK hP (wk_lL hL 15 (by decide) (by decide)) wk_c15 g1 rfl dL_ready_8 ?_
  refine lv_if_lt (tgt := 30) hx hb dL_ready_9 (by decide) (fun g2 => ?_) (fun g2 => ?_)
  · have h := wk_p g2 h
    refine lv_iconst (v := 1) hx hb dL_ready_30 (by decide) ?_
    refine lv_goto (tgt := 35) hx hb dL_ready_31 (by decide) ?_
    exact RT _ _ _ _ _ _ (Or.inr rfl) h hP hS dL_ready_35
  · have h := wk_n g2 h
    refine lv_aload_n hx hb dL_ready_12 rfl (lv_at hl 1 rfl) ?_
    refine lv_bipush (v := 8) hx hb dL_ready_13 (by decide) ?_
    refine lv_aload_n hx hb dL_ready_15 rfl (lv_at hl 0 rfl) ?_
    refine lv_bipush (v := 8) hx hb dL_ready_16 (by decide) ?_
    refine lv_iload_n hx hb dL_ready_18 rfl (lv_at hl 2 rfl) ?_
    refine lv_imul hx hb dL_ready_19 ?_
    refine lv_bipush (v := 6) hx hb dL_ready_20 (by decide) ?_
    refine lv_iadd hx hb dL_ready_22 ?_
    obtain ⟨g3, h⟩ := wk_gd_e h
    refine wk_iald (j := ((8 * v2) + 6).toNatClampNeg) hx hb hK hP (wk_lL hL 15 (by decide) (by decide)) wk_c15 g3 rfl dL_ready_23 ?_
    refine lv_imul hx hb dL_ready_24 ?_
    obtain ⟨g4, h⟩ := wk_gd_e h
    refine wk_iald (j := (8 * (M 15 0 0 (((8 * v2) + 6).toNatClampNeg))).toNatClampNeg) hx hb hK hP (wk_lL hL 16 (by decide) (by decide)) wk_c16 g4 rfl dL_ready_25 ?_
    refine lv_iconst (v := 1) hx hb dL_ready_26 (by decide) ?_
    refine lv_icmp_le (tgt := 34) hx hb dL_ready_27 (by decide) (fun g5 => ?_) (fun g5 => ?_)
    · have h := wk_p g5 h
      refine lv_iconst (v := 0) hx hb dL_ready_34 (by decide) ?_
      exact RT _ _ _ _ _ _ (Or.inl rfl) h hP hS dL_ready_35
    · have h := wk_n g5 h
      refine lv_iconst (v := 1) hx hb dL_ready_30 (by decide) ?_
      refine lv_goto (tgt := 35) hx hb dL_ready_31 (by decide) ?_
      exact RT _ _ _ _ _ _ (Or.inr rfl) h hP hS dL_ready_35
set_option maxRecDepth 100000 in
set_option maxHeartbeats 4000000 in
theorem m_L_ready (l : Launch) {D : va_G} {y : Nat → ClassId} {B : Nat → Nat → Nat → Nat} {Lk : Nat → Nat → Nat → Prop} (hI : wk_I B Lk) (hL : wk_L Lk) {v2 : Int32} {M : wk_T} {r0 : Int32} {MM : wk_T} (hf : f_L_ready v2 M = some (r0, MM)) : wk_Mi l yL_ready wsL_ready 0 0 D y B Lk [.ref (B 15 0 0), .ref (B 16 0 0), .int v2] M r0 MM :=
  wk_ofI (own := RL) (bytes := cL_ready) (maxL := 3) (ret := some .boolean) (by decide +kernel) rfl rfl (Or.inr rfl) (Nat.le_of_ble_eq_true rfl) hI hL (fun p e s m args below meth c ls CX RTi RTz hl hP hS => w_L_ready_0 CX (RTz rfl) hf hl hP hS)
def f_L_can_58 (k17 : Int32 → Int32 → Int32 → Int32 → wk_T → Option (Int32 × wk_T)) (v3 : Int32) (v5 : Int32) (v6 : Int32) (s0 : Int32) (s1 : Int32) (M : wk_T) : Option (Int32 × wk_T) := wk_lt ((s0 + s1)) (fun x1 => wk_lt (v6 + 1) (fun x2 => (k17 v3 x1 v5 x2 M)))
def f_L_can_57 (k17 : Int32 → Int32 → Int32 → Int32 → wk_T → Option (Int32 × wk_T)) (v3 : Int32) (v5 : Int32) (v6 : Int32) (s0 : Int32) (M : wk_T) : Option (Int32 × wk_T) := (f_L_can_58 k17 v3 v5 v6 s0 0 M)
def f_L_can_17 : Nat → Int32 → Int32 → Int32 → Int32 → wk_T → Option (Int32 × wk_T)
  | 0, _, _, _, _, _ => none
  | n + 1, v3, v4, v5, v6, M => (if (M 14 0 0 0) ≤ v6 then wk_gd (¬ ((8 * v3) < 0 ∨ 64 ≤ (8 * v3).toNatClampNeg)) ((if (M 16 0 0 ((8 * v3).toNatClampNeg)) = 0 then wk_cl (f_L_ready v3 M) (fun r4 M5 => (if r4 = 0 then (some (0, M5)) else (if v5 < 0 then (some (0, M5)) else wk_gd (¬ ((3 + v5) < 0 ∨ 5 ≤ (3 + v5).toNatClampNeg)) ((if (M5 14 0 0 ((3 + v5).toNatClampNeg)) ≤ v4 then (some (0, M5)) else (some (1, M5))))))) else (some (0, M)))) else wk_gd (¬ (((8 * v6) + 7) < 0 ∨ 64 ≤ ((8 * v6) + 7).toNatClampNeg)) ((if (M 15 0 0 (((8 * v6) + 7).toNatClampNeg)) = v5 then wk_gd (¬ ((8 * v6) < 0 ∨ 64 ≤ (8 * v6).toNatClampNeg)) ((if (M 16 0 0 ((8 * v6).toNatClampNeg)) = 1 then (f_L_can_58 (f_L_can_17 n) v3 v5 v6 v4 1 M) else (f_L_can_57 (f_L_can_17 n) v3 v5 v6 v4 M))) else (f_L_can_57 (f_L_can_17 n) v3 v5 v6 v4 M))))
def f_L_can (v3 : Int32) (M : wk_T) : Option (Int32 × wk_T) := wk_gd (¬ (((8 * v3) + 7) < 0 ∨ 64 ≤ ((8 * v3) + 7).toNatClampNeg)) (wk_lt ((M 15 0 0 (((8 * v3) + 7).toNatClampNeg))) (fun x2 => (f_L_can_17 wk_fuel v3 0 x2 0 M)))
set_option maxRecDepth 100000 in
set_option maxHeartbeats 4000000 in
theorem w_L_can_58 {r0 : Int32} (CX : wk_X p l e R s m args below meth c cells slots Q cL_can 7 RL wsL_can D y B Lk A 1 22) (RT : wk_Rz p l e R s m args below meth c cells slots Q cL_can D y B Lk A r0 MM) {k17 : Int32 → Int32 → Int32 → Int32 → wk_T → Option (Int32 × wk_T)} (hk17 : ∀ (v3 : Int32) (v4 : Int32) (v5 : Int32) (v6 : Int32) (M : wk_T) (H : Heap) (locs : List Loc) (ls : Array Slot), k17 v3 v4 v5 v6 M = some (r0, MM) → lv_has ls 7 [(0, .ref (B 14 0 0)), (1, .ref (B 15 0 0)), (2, .ref (B 16 0 0)), (3, .int v3), (4, .int v4), (5, .int v5), (6, .int v6)] → wk_H D y B Lk M H → va_S A s.heap H locs → W p l e R s m args below meth c H locs cells slots Q (F0 m 17 ls [])) {v3 : Int32} {v5 : Int32} {v6 : Int32} {s0 : Int32} {s1 : Int32} {M : wk_T} {H : Heap} {locs : List Loc} {ls : Array Slot} (h : f_L_can_58 k17 v3 v5 v6 s0 s1 M = some (r0, MM)) (hl : lv_has ls 7 [(0, .ref (B 14 0 0)), (1, .ref (B 15 0 0)), (2, .ref (B 16 0 0)), (3, .int v3), (5, .int v5), (6, .int v6)]) (hP : wk_H D y B Lk M H) (hS : va_S A s.heap H locs) : W p l e R s m args below meth c H locs cells slots Q (F0 m 58 ls [.int s1, .int s0]) := by
  obtain ⟨⟨hx, hb, hml, hown, hts⟩, hK, hI, hL, hA, hfr, hlo, hcs⟩ := id CX
  unfold f_L_can_58 at h
  refine lv_iadd hx hb dL_can_58 ?_
  obtain ⟨x1, ex1, h⟩ := wk_lt_e h
  refine wk_topi ex1 ?_
  refine lv_istore (lv' := [(4, .int x1), (0, .ref (B 14 0 0)), (1, .ref (B 15 0 0)), (2, .ref (B 16 0 0)), (3, .int v3), (5, .int v5), (6, .int v6)]) hx hb dL_can_59 hl (by decide) rfl (fun ls hl => ?_)
  obtain ⟨x2, ex2, h⟩ := wk_lt_e h
  refine lv_iinc (v := x2) (lv' := [(6, .int x2), (4, .int x1), (0, .ref (B 14 0 0)), (1, .ref (B 15 0 0)), (2, .ref (B 16 0 0)), (3, .int v3), (5, .int v5)]) hx hb dL_can_61 hl (k := 6) rfl (by rw [← ex2]; rfl) (by decide) rfl (fun ls hl => ?_)
  refine lv_goto (tgt := 17) hx hb dL_can_64 (by decide) ?_
  exact hk17 _ _ _ _ _ _ _ _ h (lv_sub hl [2, 3, 4, 5, 1, 6, 0] rfl) hP hS
set_option maxRecDepth 100000 in
set_option maxHeartbeats 4000000 in
theorem w_L_can_57 {r0 : Int32} (CX : wk_X p l e R s m args below meth c cells slots Q cL_can 7 RL wsL_can D y B Lk A 1 22) (RT : wk_Rz p l e R s m args below meth c cells slots Q cL_can D y B Lk A r0 MM) {k17 : Int32 → Int32 → Int32 → Int32 → wk_T → Option (Int32 × wk_T)} (hk17 : ∀ (v3 : Int32) (v4 : Int32) (v5 : Int32) (v6 : Int32) (M : wk_T) (H : Heap) (locs : List Loc) (ls : Array Slot), k17 v3 v4 v5 v6 M = some (r0, MM) → lv_has ls 7 [(0, .ref (B 14 0 0)), (1, .ref (B 15 0 0)), (2, .ref (B 16 0 0)), (3, .int v3), (4, .int v4), (5, .int v5), (6, .int v6)] → wk_H D y B Lk M H → va_S A s.heap H locs → W p l e R s m args below meth c H locs cells slots Q (F0 m 17 ls [])) {v3 : Int32} {v5 : Int32} {v6 : Int32} {s0 : Int32} {M : wk_T} {H : Heap} {locs : List Loc} {ls : Array Slot} (h : f_L_can_57 k17 v3 v5 v6 s0 M = some (r0, MM)) (hl : lv_has ls 7 [(0, .ref (B 14 0 0)), (1, .ref (B 15 0 0)), (2, .ref (B 16 0 0)), (3, .int v3), (5, .int v5), (6, .int v6)]) (hP : wk_H D y B Lk M H) (hS : va_S A s.heap H locs) : W p l e R s m args below meth c H locs cells slots Q (F0 m 57 ls [.int s0]) := by
  obtain ⟨⟨hx, hb, hml, hown, hts⟩, hK, hI, hL, hA, hfr, hlo, hcs⟩ := id CX
  unfold f_L_can_57 at h
  refine lv_iconst (v := 0) hx hb dL_can_57 (by decide) ?_
  exact w_L_can_58 CX RT hk17 h (lv_sub hl [0, 1, 2, 3, 4, 5] rfl) hP hS
set_option maxRecDepth 100000 in
set_option maxHeartbeats 4000000 in
theorem w_L_can_17 {r0 : Int32} (CX : wk_X p l e R s m args below meth c cells slots Q cL_can 7 RL wsL_can D y B Lk A 1 22) (RT : wk_Rz p l e R s m args below meth c cells slots Q cL_can D y B Lk A r0 MM) : ∀ (n : Nat) (v3 : Int32) (v4 : Int32) (v5 : Int32) (v6 : Int32) (M : wk_T) (H : Heap) (locs : List Loc) (ls : Array Slot), f_L_can_17 n v3 v4 v5 v6 M = some (r0, MM) → lv_has ls 7 [(0, .ref (B 14 0 0)), (1, .ref (B 15 0 0)), (2, .ref (B 16 0 0)), (3, .int v3), (4, .int v4), (5, .int v5), (6, .int v6)] → wk_H D y B Lk M H → va_S A s.heap H locs → W p l e R s m args below meth c H locs cells slots Q (F0 m 17 ls []) := by
  obtain ⟨⟨hx, hb, hml, hown, hts⟩, hK, hI, hL, hA, hfr, hlo, hcs⟩ := id CX
  intro n
  induction n with
  | zero =>
    intro v3 v4 v5 v6 M H locs ls h
    exact absurd h (by rw [f_L_can_17]; exact fun z => nomatch z)
  | succ n ih =>
    intro v3 v4 v5 v6 M H locs ls h hl hP hS
    rw [f_L_can_17] at h
    refine lv_iload hx hb dL_can_17 (lv_at hl 6 rfl) ?_
    refine lv_aload_n hx hb dL_can_19 rfl (lv_at hl 0 rfl) ?_
    refine lv_iconst (v := 0) hx hb dL_can_20 (by decide) ?_
    refine wk_iald (j := 0) hx hb hK hP (wk_lL hL 14 (by decide) (by decide)) wk_c14 (by decide) (by decide) dL_can_21 ?_
    refine lv_icmp_ge (tgt := 67) hx hb dL_can_22 (by decide) (fun g1 => ?_) (fun g1 => ?_)
    · have h := wk_p g1 h
      refine lv_aload_n hx hb dL_can_67 rfl (lv_at hl 2 rfl) ?_
      refine lv_bipush (v := 8) hx hb dL_can_68 (by decide) ?_
      refine lv_iload_n hx hb dL_can_70 rfl (lv_at hl 3 rfl) ?_
      refine lv_imul hx hb dL_can_71 ?_
      obtain ⟨g2, h⟩ := wk_gd_e h
      refine wk_iald (j := (8 * v3).toNatClampNeg) hx hb hK hP (wk_lL hL 16 (by decide) (by decide)) wk_c16 g2 rfl dL_can_72 ?_
      refine lv_if_ne (tgt := 105) hx hb dL_can_73 (by decide) (fun g3 => ?_) (fun g3 => ?_)
      · have h := wk_n g3 h
        refine lv_iconst (v := 0) hx hb dL_can_105 (by decide) ?_
        exact RT _ _ _ _ _ _ (Or.inl rfl) h hP hS dL_can_106
      · have h := wk_p g3 h
        refine lv_aload_n hx hb dL_can_76 rfl (lv_at hl 1 rfl) ?_
        refine lv_aload_n hx hb dL_can_77 rfl (lv_at hl 2 rfl) ?_
        refine lv_iload_n hx hb dL_can_78 rfl (lv_at hl 3 rfl) ?_
        obtain ⟨r4, M5, er4, h⟩ := wk_cl_e h
        refine wk_cSi (As := [.ref (B 15 0 0), .ref (B 16 0 0), .int v3]) (rest := []) ⟨hx, hb, hml, hown, hts⟩ (m_L_ready l hI hL er4) (va_cwS 3 hts gL_can_L_ready rfl rfl rfl (by decide +kernel) ⟨Nat.le_trans (by decide) hfr, Nat.le_trans (by decide) hlo⟩) hK hP hS hA rfl hl.1 (lv_room (Nat.le_of_ble_eq_true rfl)) hcs dL_can_79 (fun H locs hP hS => ?_)
        refine lv_if_eq (tgt := 105) hx hb dL_can_82 (by decide) (fun g6 => ?_) (fun g6 => ?_)
        · have h := wk_p g6 h
          refine lv_iconst (v := 0) hx hb dL_can_105 (by decide) ?_
          exact RT _ _ _ _ _ _ (Or.inl rfl) h hP hS dL_can_106
        · have h := wk_n g6 h
          refine lv_iload hx hb dL_can_85 (lv_at hl 5 rfl) ?_
          refine lv_if_lt (tgt := 105) hx hb dL_can_87 (by decide) (fun g7 => ?_) (fun g7 => ?_)
          · have h := wk_p g7 h
            refine lv_iconst (v := 0) hx hb dL_can_105 (by decide) ?_
            exact RT _ _ _ _ _ _ (Or.inl rfl) h hP hS dL_can_106
          · have h := wk_n g7 h
            refine lv_iload hx hb dL_can_90 (lv_at hl 4 rfl) ?_
            refine lv_aload_n hx hb dL_can_92 rfl (lv_at hl 0 rfl) ?_
            refine lv_iconst (v := 3) hx hb dL_can_93 (by decide) ?_
            refine lv_iload hx hb dL_can_94 (lv_at hl 5 rfl) ?_
            refine lv_iadd hx hb dL_can_96 ?_
            obtain ⟨g8, h⟩ := wk_gd_e h
            refine wk_iald (j := (3 + v5).toNatClampNeg) hx hb hK hP (wk_lL hL 14 (by decide) (by decide)) wk_c14 g8 rfl dL_can_97 ?_
            refine lv_icmp_ge (tgt := 105) hx hb dL_can_98 (by decide) (fun g9 => ?_) (fun g9 => ?_)
            · have h := wk_p g9 h
              refine lv_iconst (v := 0) hx hb dL_can_105 (by decide) ?_
              exact RT _ _ _ _ _ _ (Or.inl rfl) h hP hS dL_can_106
            · have h := wk_n g9 h
              refine lv_iconst (v := 1) hx hb dL_can_101 (by decide) ?_
              refine lv_goto (tgt := 106) hx hb dL_can_102 (by decide) ?_
              exact RT _ _ _ _ _ _ (Or.inr rfl) h hP hS dL_can_106
    · have h := wk_n g1 h
      refine lv_iload hx hb dL_can_25 (lv_at hl 4 rfl) ?_
      refine lv_aload_n hx hb dL_can_27 rfl (lv_at hl 1 rfl) ?_
      refine lv_bipush (v := 8) hx hb dL_can_28 (by decide) ?_
      refine lv_iload hx hb dL_can_30 (lv_at hl 6 rfl) ?_
      refine lv_imul hx hb dL_can_32 ?_
      refine lv_bipush (v := 7) hx hb dL_can_33 (by decide) ?_
      refine lv_iadd hx hb dL_can_35 ?_
      obtain ⟨g10, h⟩ := wk_gd_e h
      refine wk_iald (j := ((8 * v6) + 7).toNatClampNeg) hx hb hK hP (wk_lL hL 15 (by decide) (by decide)) wk_c15 g10 rfl dL_can_36 ?_
      refine lv_iload hx hb dL_can_37 (lv_at hl 5 rfl) ?_
      refine lv_icmp_ne (tgt := 57) hx hb dL_can_39 (by decide) (fun g11 => ?_) (fun g11 => ?_)
      · have h := wk_n g11 h
        exact w_L_can_57 CX RT ih h (lv_sub hl [0, 1, 2, 3, 5, 6] rfl) hP hS
      · have h := wk_p g11 h
        refine lv_aload_n hx hb dL_can_42 rfl (lv_at hl 2 rfl) ?_
        refine lv_bipush (v := 8) hx hb dL_can_43 (by decide) ?_
        refine lv_iload hx hb dL_can_45 (lv_at hl 6 rfl) ?_
        refine lv_imul hx hb dL_can_47 ?_
        obtain ⟨g12, h⟩ := wk_gd_e h
        refine wk_iald (j := (8 * v6).toNatClampNeg) hx hb hK hP (wk_lL hL 16 (by decide) (by decide)) wk_c16 g12 rfl dL_can_48 ?_
        refine lv_iconst (v := 1) hx hb dL_can_49 (by decide) ?_
        refine lv_icmp_ne (tgt := 57) hx hb dL_can_50 (by decide) (fun g13 => ?_) (fun g13 => ?_)
        · have h := wk_n g13 h
          exact w_L_can_57 CX RT ih h (lv_sub hl [0, 1, 2, 3, 5, 6] rfl) hP hS
        · have h := wk_p g13 h
          refine lv_iconst (v := 1) hx hb dL_can_53 (by decide) ?_
          refine lv_goto (tgt := 58) hx hb dL_can_54 (by decide) ?_
          exact w_L_can_58 CX RT ih h (lv_sub hl [0, 1, 2, 3, 5, 6] rfl) hP hS
set_option maxRecDepth 100000 in
set_option maxHeartbeats 4000000 in
theorem w_L_can_0 {r0 : Int32} (CX : wk_X p l e R s m args below meth c cells slots Q cL_can 7 RL wsL_can D y B Lk A 1 22) (RT : wk_Rz p l e R s m args below meth c cells slots Q cL_can D y B Lk A r0 MM) {v3 : Int32} {M : wk_T} {H : Heap} {locs : List Loc} {ls : Array Slot} (h : f_L_can v3 M = some (r0, MM)) (hl : lv_has ls 7 [(0, .ref (B 14 0 0)), (1, .ref (B 15 0 0)), (2, .ref (B 16 0 0)), (3, .int v3)]) (hP : wk_H D y B Lk M H) (hS : va_S A s.heap H locs) : W p l e R s m args below meth c H locs cells slots Q (F0 m 0 ls []) := by
  obtain ⟨⟨hx, hb, hml, hown, hts⟩, hK, hI, hL, hA, hfr, hlo, hcs⟩ := id CX
  unfold f_L_can at h
  refine lv_iconst (v := 0) hx hb dL_can_0 (by decide) ?_
  refine lv_istore (lv' := [(4, .int 0), (0, .ref (B 14 0 0)), (1, .ref (B 15 0 0)), (2, .ref (B 16 0 0)), (3, .int v3)]) hx hb dL_can_1 hl (by decide) rfl (fun ls hl => ?_)
  refine lv_aload_n hx hb dL_can_3 rfl (lv_at hl 2 rfl) ?_
  refine lv_bipush (v := 8) hx hb dL_can_4 (by decide) ?_
  refine lv_iload_n hx hb dL_can_6 rfl (lv_at hl 4 rfl) ?_
  refine lv_imul hx hb dL_can_7 ?_
  refine lv_bipush (v := 7) hx hb dL_can_8 (by decide) ?_
  refine lv_iadd hx hb dL_can_10 ?_
  obtain ⟨g1, h⟩ := wk_gd_e h
  refine wk_iald (j := ((8 * v3) + 7).toNatClampNeg) hx hb hK hP (wk_lL hL 15 (by decide) (by decide)) wk_c15 g1 rfl dL_can_11 ?_
  obtain ⟨x2, ex2, h⟩ := wk_lt_e h
  refine wk_topi ex2 ?_
  refine lv_istore (lv' := [(5, .int x2), (4, .int 0), (0, .ref (B 14 0 0)), (1, .ref (B 15 0 0)), (2, .ref (B 16 0 0)), (3, .int v3)]) hx hb dL_can_12 hl (by decide) rfl (fun ls hl => ?_)
  refine lv_iconst (v := 0) hx hb dL_can_14 (by decide) ?_
  refine lv_istore (lv' := [(6, .int 0), (5, .int x2), (4, .int 0), (0, .ref (B 14 0 0)), (1, .ref (B 15 0 0)), (2, .ref (B 16 0 0)), (3, .int v3)]) hx hb dL_can_15 hl (by decide) rfl (fun ls hl => ?_)
  exact w_L_can_17 CX RT wk_fuel _ _ _ _ _ _ _ _ h (lv_sub hl [3, 4, 5, 6, 2, 1, 0] rfl) hP hS
set_option maxRecDepth 100000 in
set_option maxHeartbeats 4000000 in
theorem m_L_can (l : Launch) {D : va_G} {y : Nat → ClassId} {B : Nat → Nat → Nat → Nat} {Lk : Nat → Nat → Nat → Prop} (hI : wk_I B Lk) (hL : wk_L Lk) {v3 : Int32} {M : wk_T} {r0 : Int32} {MM : wk_T} (hf : f_L_can v3 M = some (r0, MM)) : wk_Mi l yL_can wsL_can 1 22 D y B Lk [.ref (B 14 0 0), .ref (B 15 0 0), .ref (B 16 0 0), .int v3] M r0 MM :=
  wk_ofI (own := RL) (bytes := cL_can) (maxL := 7) (ret := some .boolean) (by decide +kernel) rfl rfl (Or.inr rfl) (Nat.le_of_ble_eq_true rfl) hI hL (fun p e s m args below meth c ls CX RTi RTz hl hP hS => w_L_can_0 CX (RTz rfl) hf hl hP hS)
def f_L_wake (v3 : Int32) (M : wk_T) : Option (Unit × wk_T) := wk_gd (¬ ((8 * v3) < 0 ∨ 64 ≤ (8 * v3).toNatClampNeg)) (wk_mu (wk_up M 16 0 0 ((8 * v3).toNatClampNeg) 1) (fun M2 => wk_gd (¬ (((8 * v3) + 2) < 0 ∨ 64 ≤ ((8 * v3) + 2).toNatClampNeg)) (wk_gd (¬ (((8 * v3) + 1) < 0 ∨ 64 ≤ ((8 * v3) + 1).toNatClampNeg)) (wk_mu (wk_up M2 16 0 0 (((8 * v3) + 1).toNatClampNeg) (M2 15 0 0 (((8 * v3) + 2).toNatClampNeg))) (fun M5 => wk_gd (¬ (((8 * v3) + 7) < 0 ∨ 64 ≤ ((8 * v3) + 7).toNatClampNeg)) (wk_gd (¬ (((8 * v3) + 7) < 0 ∨ 64 ≤ ((8 * v3) + 7).toNatClampNeg)) (wk_mu (wk_up M5 16 0 0 (((8 * v3) + 7).toNatClampNeg) ((M5 16 0 0 (((8 * v3) + 7).toNatClampNeg)) + 1)) (fun M8 => wk_gd (¬ ((4 * v3) < 0 ∨ 48 ≤ (4 * v3).toNatClampNeg)) (wk_gd (¬ (((8 * v3) + 1) < 0 ∨ 64 ≤ ((8 * v3) + 1).toNatClampNeg)) (wk_gd (¬ ((4 * v3) < 0 ∨ 48 ≤ (4 * v3).toNatClampNeg)) (wk_mu (wk_up M8 17 0 0 ((4 * v3).toNatClampNeg) ((M8 17 0 0 ((4 * v3).toNatClampNeg)) + (M8 15 0 0 (((8 * v3) + 1).toNatClampNeg)))) (fun M12 => (some ((), M12))))))))))))))
set_option maxRecDepth 100000 in
set_option maxHeartbeats 4000000 in
theorem w_L_wake_0 (CX : wk_X p l e R s m args below meth c cells slots Q cL_wake 4 RL wsL_wake D y B Lk A 0 0) (RT : wk_Rv p l e R s m args below meth c cells slots Q cL_wake D y B Lk A MM) {v3 : Int32} {M : wk_T} {H : Heap} {locs : List Loc} {ls : Array Slot} (h : f_L_wake v3 M = some ((), MM)) (hl : lv_has ls 4 [(0, .ref (B 15 0 0)), (1, .ref (B 16 0 0)), (2, .ref (B 17 0 0)), (3, .int v3)]) (hP : wk_H D y B Lk M H) (hS : va_S A s.heap H locs) : W p l e R s m args below meth c H locs cells slots Q (F0 m 0 ls []) := by
  obtain ⟨⟨hx, hb, hml, hown, hts⟩, hK, hI, hL, hA, hfr, hlo, hcs⟩ := id CX
  unfold f_L_wake at h
  refine lv_aload_n hx hb dL_wake_0 rfl (lv_at hl 1 rfl) ?_
  refine lv_bipush (v := 8) hx hb dL_wake_1 (by decide) ?_
  refine lv_iload_n hx hb dL_wake_3 rfl (lv_at hl 3 rfl) ?_
  refine lv_imul hx hb dL_wake_4 ?_
  refine lv_iconst (v := 1) hx hb dL_wake_5 (by decide) ?_
  obtain ⟨g1, h⟩ := wk_gd_e h
  obtain ⟨M2, eM2, h⟩ := wk_mu_e h
  refine wk_iast (j := (8 * v3).toNatClampNeg) hx hb hK hP hI hS hA (wk_lL hL 16 (by decide) (by decide)) wk_c16 g1 rfl (by rfl) dL_wake_6 (fun H locs hP hS => ?_)
  rw [eM2] at hP
  refine lv_aload_n hx hb dL_wake_7 rfl (lv_at hl 1 rfl) ?_
  refine lv_bipush (v := 8) hx hb dL_wake_8 (by decide) ?_
  refine lv_iload_n hx hb dL_wake_10 rfl (lv_at hl 3 rfl) ?_
  refine lv_imul hx hb dL_wake_11 ?_
  refine lv_iconst (v := 1) hx hb dL_wake_12 (by decide) ?_
  refine lv_iadd hx hb dL_wake_13 ?_
  refine lv_aload_n hx hb dL_wake_14 rfl (lv_at hl 0 rfl) ?_
  refine lv_bipush (v := 8) hx hb dL_wake_15 (by decide) ?_
  refine lv_iload_n hx hb dL_wake_17 rfl (lv_at hl 3 rfl) ?_
  refine lv_imul hx hb dL_wake_18 ?_
  refine lv_iconst (v := 2) hx hb dL_wake_19 (by decide) ?_
  refine lv_iadd hx hb dL_wake_20 ?_
  obtain ⟨g3, h⟩ := wk_gd_e h
  refine wk_iald (j := ((8 * v3) + 2).toNatClampNeg) hx hb hK hP (wk_lL hL 15 (by decide) (by decide)) wk_c15 g3 rfl dL_wake_21 ?_
  obtain ⟨g4, h⟩ := wk_gd_e h
  obtain ⟨M5, eM5, h⟩ := wk_mu_e h
  refine wk_iast (j := ((8 * v3) + 1).toNatClampNeg) hx hb hK hP hI hS hA (wk_lL hL 16 (by decide) (by decide)) wk_c16 g4 rfl (by rfl) dL_wake_22 (fun H locs hP hS => ?_)
  rw [eM5] at hP
  refine lv_aload_n hx hb dL_wake_23 rfl (lv_at hl 1 rfl) ?_
  refine lv_bipush (v := 8) hx hb dL_wake_24 (by decide) ?_
  refine lv_iload_n hx hb dL_wake_26 rfl (lv_at hl 3 rfl) ?_
  refine lv_imul hx hb dL_wake_27 ?_
  refine lv_bipush (v := 7) hx hb dL_wake_28 (by decide) ?_
  refine lv_iadd hx hb dL_wake_30 ?_
  refine lv_dup2_11 hx hb dL_wake_31 rfl rfl ?_
  obtain ⟨g6, h⟩ := wk_gd_e h
  refine wk_iald (j := ((8 * v3) + 7).toNatClampNeg) hx hb hK hP (wk_lL hL 16 (by decide) (by decide)) wk_c16 g6 rfl dL_wake_32 ?_
  refine lv_iconst (v := 1) hx hb dL_wake_33 (by decide) ?_
  refine lv_iadd hx hb dL_wake_34 ?_
  obtain ⟨g7, h⟩ := wk_gd_e h
  obtain ⟨M8, eM8, h⟩ := wk_mu_e h
  refine wk_iast (j := ((8 * v3) + 7).toNatClampNeg) hx hb hK hP hI hS hA (wk_lL hL 16 (by decide) (by decide)) wk_c16 g7 rfl (by rfl) dL_wake_35 (fun H locs hP hS => ?_)
  rw [eM8] at hP
  refine lv_aload_n hx hb dL_wake_36 rfl (lv_at hl 2 rfl) ?_
  refine lv_iconst (v := 4) hx hb dL_wake_37 (by decide) ?_
  refine lv_iload_n hx hb dL_wake_38 rfl (lv_at hl 3 rfl) ?_
  refine lv_imul hx hb dL_wake_39 ?_
  refine lv_dup2_11 hx hb dL_wake_40 rfl rfl ?_
  obtain ⟨g9, h⟩ := wk_gd_e h
  refine wk_iald (j := (4 * v3).toNatClampNeg) hx hb hK hP (wk_lL hL 17 (by decide) (by decide)) wk_c17 g9 rfl dL_wake_41 ?_
  refine lv_aload_n hx hb dL_wake_42 rfl (lv_at hl 0 rfl) ?_
  refine lv_bipush (v := 8) hx hb dL_wake_43 (by decide) ?_
  refine lv_iload_n hx hb dL_wake_45 rfl (lv_at hl 3 rfl) ?_
  refine lv_imul hx hb dL_wake_46 ?_
  refine lv_iconst (v := 1) hx hb dL_wake_47 (by decide) ?_
  refine lv_iadd hx hb dL_wake_48 ?_
  obtain ⟨g10, h⟩ := wk_gd_e h
  refine wk_iald (j := ((8 * v3) + 1).toNatClampNeg) hx hb hK hP (wk_lL hL 15 (by decide) (by decide)) wk_c15 g10 rfl dL_wake_49 ?_
  refine lv_iadd hx hb dL_wake_50 ?_
  obtain ⟨g11, h⟩ := wk_gd_e h
  obtain ⟨M12, eM12, h⟩ := wk_mu_e h
  refine wk_iast (j := (4 * v3).toNatClampNeg) hx hb hK hP hI hS hA (wk_lL hL 17 (by decide) (by decide)) wk_c17 g11 rfl (by rfl) dL_wake_51 (fun H locs hP hS => ?_)
  rw [eM12] at hP
  exact RT _ _ _ _ _ h hP hS dL_wake_52
set_option maxRecDepth 100000 in
set_option maxHeartbeats 4000000 in
theorem m_L_wake (l : Launch) {D : va_G} {y : Nat → ClassId} {B : Nat → Nat → Nat → Nat} {Lk : Nat → Nat → Nat → Prop} (hI : wk_I B Lk) (hL : wk_L Lk) {v3 : Int32} {M : wk_T} {MM : wk_T} (hf : f_L_wake v3 M = some ((), MM)) : wk_Mv l yL_wake wsL_wake 0 0 D y B Lk [.ref (B 15 0 0), .ref (B 16 0 0), .ref (B 17 0 0), .int v3] M MM :=
  wk_ofV (own := RL) (bytes := cL_wake) (maxL := 4) (by decide +kernel) rfl rfl (Nat.le_of_ble_eq_true rfl) hI hL (fun p e s m args below meth c ls CX RT hl hP hS => w_L_wake_0 CX RT hf hl hP hS)
def f_L_drop_11 : Nat → Int32 → wk_T → Option (Unit × wk_T)
  | 0, _, _ => none
  | n + 1, v3, M => (if (3 * (M 14 0 0 1)) ≤ v3 then (some ((), M)) else wk_gd (¬ ((v3 + 3) < 0 ∨ 36 ≤ (v3 + 3).toNatClampNeg)) (wk_gd (¬ (v3 < 0 ∨ 36 ≤ v3.toNatClampNeg)) (wk_mu (wk_up M 18 0 0 (v3.toNatClampNeg) (M 18 0 0 ((v3 + 3).toNatClampNeg))) (fun M4 => wk_lt (v3 + 1) (fun x5 => (f_L_drop_11 n x5 M4))))))
def f_L_drop (v2 : Int32) (M : wk_T) : Option (Unit × wk_T) := wk_mu (wk_up M 14 0 0 1 ((M 14 0 0 1) - 1)) (fun M1 => wk_lt ((3 * v2)) (fun x2 => (f_L_drop_11 wk_fuel x2 M1)))
set_option maxRecDepth 100000 in
set_option maxHeartbeats 4000000 in
theorem w_L_drop_11 (CX : wk_X p l e R s m args below meth c cells slots Q cL_drop 4 RL wsL_drop D y B Lk A 0 0) (RT : wk_Rv p l e R s m args below meth c cells slots Q cL_drop D y B Lk A MM) : ∀ (n : Nat) (v3 : Int32) (M : wk_T) (H : Heap) (locs : List Loc) (ls : Array Slot), f_L_drop_11 n v3 M = some ((), MM) → lv_has ls 4 [(0, .ref (B 14 0 0)), (1, .ref (B 18 0 0)), (3, .int v3)] → wk_H D y B Lk M H → va_S A s.heap H locs → W p l e R s m args below meth c H locs cells slots Q (F0 m 11 ls []) := by
  obtain ⟨⟨hx, hb, hml, hown, hts⟩, hK, hI, hL, hA, hfr, hlo, hcs⟩ := id CX
  intro n
  induction n with
  | zero =>
    intro v3 M H locs ls h
    exact absurd h (by rw [f_L_drop_11]; exact fun z => nomatch z)
  | succ n ih =>
    intro v3 M H locs ls h hl hP hS
    rw [f_L_drop_11] at h
    refine lv_iload_n hx hb dL_drop_11 rfl (lv_at hl 2 rfl) ?_
    refine lv_iconst (v := 3) hx hb dL_drop_12 (by decide) ?_
    refine lv_aload_n hx hb dL_drop_13 rfl (lv_at hl 0 rfl) ?_
    refine lv_iconst (v := 1) hx hb dL_drop_14 (by decide) ?_
    refine wk_iald (j := 1) hx hb hK hP (wk_lL hL 14 (by decide) (by decide)) wk_c14 (by decide) (by decide) dL_drop_15 ?_
    refine lv_imul hx hb dL_drop_16 ?_
    refine lv_icmp_ge (tgt := 34) hx hb dL_drop_17 (by decide) (fun g1 => ?_) (fun g1 => ?_)
    · have h := wk_p g1 h
      exact RT _ _ _ _ _ h hP hS dL_drop_34
    · have h := wk_n g1 h
      refine lv_aload_n hx hb dL_drop_20 rfl (lv_at hl 1 rfl) ?_
      refine lv_iload_n hx hb dL_drop_21 rfl (lv_at hl 2 rfl) ?_
      refine lv_aload_n hx hb dL_drop_22 rfl (lv_at hl 1 rfl) ?_
      refine lv_iload_n hx hb dL_drop_23 rfl (lv_at hl 2 rfl) ?_
      refine lv_iconst (v := 3) hx hb dL_drop_24 (by decide) ?_
      refine lv_iadd hx hb dL_drop_25 ?_
      obtain ⟨g2, h⟩ := wk_gd_e h
      refine wk_iald (j := (v3 + 3).toNatClampNeg) hx hb hK hP (wk_lL hL 18 (by decide) (by decide)) wk_c18 g2 rfl dL_drop_26 ?_
      obtain ⟨g3, h⟩ := wk_gd_e h
      obtain ⟨M4, eM4, h⟩ := wk_mu_e h
      refine wk_iast (j := v3.toNatClampNeg) hx hb hK hP hI hS hA (wk_lL hL 18 (by decide) (by decide)) wk_c18 g3 rfl (by rfl) dL_drop_27 (fun H locs hP hS => ?_)
      rw [eM4] at hP
      obtain ⟨x5, ex5, h⟩ := wk_lt_e h
      refine lv_iinc (v := x5) (lv' := [(3, .int x5), (0, .ref (B 14 0 0)), (1, .ref (B 18 0 0))]) hx hb dL_drop_28 hl (k := 2) rfl (by rw [← ex5]; rfl) (by decide) rfl (fun ls hl => ?_)
      refine lv_goto (tgt := 11) hx hb dL_drop_31 (by decide) ?_
      exact ih _ _ _ _ _ h (lv_sub hl [1, 2, 0] rfl) hP hS
set_option maxRecDepth 100000 in
set_option maxHeartbeats 4000000 in
theorem w_L_drop_0 (CX : wk_X p l e R s m args below meth c cells slots Q cL_drop 4 RL wsL_drop D y B Lk A 0 0) (RT : wk_Rv p l e R s m args below meth c cells slots Q cL_drop D y B Lk A MM) {v2 : Int32} {M : wk_T} {H : Heap} {locs : List Loc} {ls : Array Slot} (h : f_L_drop v2 M = some ((), MM)) (hl : lv_has ls 4 [(0, .ref (B 14 0 0)), (1, .ref (B 18 0 0)), (2, .int v2)]) (hP : wk_H D y B Lk M H) (hS : va_S A s.heap H locs) : W p l e R s m args below meth c H locs cells slots Q (F0 m 0 ls []) := by
  obtain ⟨⟨hx, hb, hml, hown, hts⟩, hK, hI, hL, hA, hfr, hlo, hcs⟩ := id CX
  unfold f_L_drop at h
  refine lv_aload_n hx hb dL_drop_0 rfl (lv_at hl 0 rfl) ?_
  refine lv_iconst (v := 1) hx hb dL_drop_1 (by decide) ?_
  refine lv_dup2_11 hx hb dL_drop_2 rfl rfl ?_
  refine wk_iald (j := 1) hx hb hK hP (wk_lL hL 14 (by decide) (by decide)) wk_c14 (by decide) (by decide) dL_drop_3 ?_
  refine lv_iconst (v := 1) hx hb dL_drop_4 (by decide) ?_
  refine lv_isub hx hb dL_drop_5 ?_
  obtain ⟨M1, eM1, h⟩ := wk_mu_e h
  refine wk_iast (j := 1) hx hb hK hP hI hS hA (wk_lL hL 14 (by decide) (by decide)) wk_c14 (by decide) (by decide) (by rfl) dL_drop_6 (fun H locs hP hS => ?_)
  rw [eM1] at hP
  refine lv_iconst (v := 3) hx hb dL_drop_7 (by decide) ?_
  refine lv_iload_n hx hb dL_drop_8 rfl (lv_at hl 2 rfl) ?_
  refine lv_imul hx hb dL_drop_9 ?_
  obtain ⟨x2, ex2, h⟩ := wk_lt_e h
  refine wk_topi ex2 ?_
  refine lv_istore_n (lv' := [(3, .int x2), (0, .ref (B 14 0 0)), (1, .ref (B 18 0 0)), (2, .int v2)]) hx hb dL_drop_10 rfl hl (by decide) rfl (fun ls hl => ?_)
  exact w_L_drop_11 CX RT wk_fuel _ _ _ _ _ h (lv_sub hl [1, 2, 0] rfl) hP hS
set_option maxRecDepth 100000 in
set_option maxHeartbeats 4000000 in
theorem m_L_drop (l : Launch) {D : va_G} {y : Nat → ClassId} {B : Nat → Nat → Nat → Nat} {Lk : Nat → Nat → Nat → Prop} (hI : wk_I B Lk) (hL : wk_L Lk) {v2 : Int32} {M : wk_T} {MM : wk_T} (hf : f_L_drop v2 M = some ((), MM)) : wk_Mv l yL_drop wsL_drop 0 0 D y B Lk [.ref (B 14 0 0), .ref (B 18 0 0), .int v2] M MM :=
  wk_ofV (own := RL) (bytes := cL_drop) (maxL := 4) (by decide +kernel) rfl rfl (Nat.le_of_ble_eq_true rfl) hI hL (fun p e s m args below meth c ls CX RT hl hP hS => w_L_drop_0 CX RT hf hl hP hS)
def f_L_needed_50 (k8 : Int32 → Int32 → Int32 → wk_T → Option (Int32 × wk_T)) (v3 : Int32) (v5 : Int32) (s0 : Int32) (M : wk_T) : Option (Int32 × wk_T) := wk_lt (v5 + 1) (fun x1 => (k8 v3 s0 x1 M))
def f_L_needed_45 (k8 : Int32 → Int32 → Int32 → wk_T → Option (Int32 × wk_T)) (v3 : Int32) (v5 : Int32) (M : wk_T) : Option (Int32 × wk_T) := (f_L_needed_50 k8 v3 v5 1 M)
def f_L_needed_49 (k8 : Int32 → Int32 → Int32 → wk_T → Option (Int32 × wk_T)) (v3 : Int32) (v5 : Int32) (M : wk_T) : Option (Int32 × wk_T) := (f_L_needed_50 k8 v3 v5 0 M)
def f_L_needed_8 : Nat → Int32 → Int32 → Int32 → wk_T → Option (Int32 × wk_T)
  | 0, _, _, _, _ => none
  | n + 1, v3, v4, v5, M => (if (M 14 0 0 0) ≤ v5 then wk_gd (v4 = 0 ∨ v4 = 1) ((some (v4, M))) else (if v4 = 0 then wk_gd (¬ (((8 * v5) + 6) < 0 ∨ 64 ≤ ((8 * v5) + 6).toNatClampNeg)) ((if (M 15 0 0 (((8 * v5) + 6).toNatClampNeg)) = v3 then wk_gd (¬ ((8 * v5) < 0 ∨ 64 ≤ (8 * v5).toNatClampNeg)) ((if (M 16 0 0 ((8 * v5).toNatClampNeg)) ≤ 0 then (f_L_needed_49 (f_L_needed_8 n) v3 v5 M) else (f_L_needed_45 (f_L_needed_8 n) v3 v5 M))) else (f_L_needed_49 (f_L_needed_8 n) v3 v5 M))) else (f_L_needed_45 (f_L_needed_8 n) v3 v5 M)))
def f_L_needed (v3 : Int32) (M : wk_T) : Option (Int32 × wk_T) := wk_lt ((v3 + 1)) (fun x1 => (f_L_needed_8 wk_fuel v3 0 x1 M))
set_option maxRecDepth 100000 in
set_option maxHeartbeats 4000000 in
theorem w_L_needed_50 {r0 : Int32} (CX : wk_X p l e R s m args below meth c cells slots Q cL_needed 6 RL wsL_needed D y B Lk A 0 0) (RT : wk_Rz p l e R s m args below meth c cells slots Q cL_needed D y B Lk A r0 MM) {k8 : Int32 → Int32 → Int32 → wk_T → Option (Int32 × wk_T)} (hk8 : ∀ (v3 : Int32) (v4 : Int32) (v5 : Int32) (M : wk_T) (H : Heap) (locs : List Loc) (ls : Array Slot), k8 v3 v4 v5 M = some (r0, MM) → lv_has ls 6 [(0, .ref (B 14 0 0)), (1, .ref (B 15 0 0)), (2, .ref (B 16 0 0)), (3, .int v3), (4, .int v4), (5, .int v5)] → wk_H D y B Lk M H → va_S A s.heap H locs → W p l e R s m args below meth c H locs cells slots Q (F0 m 8 ls [])) {v3 : Int32} {v5 : Int32} {s0 : Int32} {M : wk_T} {H : Heap} {locs : List Loc} {ls : Array Slot} (h : f_L_needed_50 k8 v3 v5 s0 M = some (r0, MM)) (hl : lv_has ls 6 [(0, .ref (B 14 0 0)), (1, .ref (B 15 0 0)), (2, .ref (B 16 0 0)), (3, .int v3), (5, .int v5)]) (hP : wk_H D y B Lk M H) (hS : va_S A s.heap H locs) : W p l e R s m args below meth c H locs cells slots Q (F0 m 50 ls [.int s0]) := by
  obtain ⟨⟨hx, hb, hml, hown, hts⟩, hK, hI, hL, hA, hfr, hlo, hcs⟩ := id CX
  unfold f_L_needed_50 at h
  refine lv_istore (lv' := [(4, .int s0), (0, .ref (B 14 0 0)), (1, .ref (B 15 0 0)), (2, .ref (B 16 0 0)), (3, .int v3), (5, .int v5)]) hx hb dL_needed_50 hl (by decide) rfl (fun ls hl => ?_)
  obtain ⟨x1, ex1, h⟩ := wk_lt_e h
  refine lv_iinc (v := x1) (lv' := [(5, .int x1), (4, .int s0), (0, .ref (B 14 0 0)), (1, .ref (B 15 0 0)), (2, .ref (B 16 0 0)), (3, .int v3)]) hx hb dL_needed_52 hl (k := 5) rfl (by rw [← ex1]; rfl) (by decide) rfl (fun ls hl => ?_)
  refine lv_goto (tgt := 8) hx hb dL_needed_55 (by decide) ?_
  exact hk8 _ _ _ _ _ _ _ h (lv_sub hl [2, 3, 4, 5, 1, 0] rfl) hP hS
set_option maxRecDepth 100000 in
set_option maxHeartbeats 4000000 in
theorem w_L_needed_45 {r0 : Int32} (CX : wk_X p l e R s m args below meth c cells slots Q cL_needed 6 RL wsL_needed D y B Lk A 0 0) (RT : wk_Rz p l e R s m args below meth c cells slots Q cL_needed D y B Lk A r0 MM) {k8 : Int32 → Int32 → Int32 → wk_T → Option (Int32 × wk_T)} (hk8 : ∀ (v3 : Int32) (v4 : Int32) (v5 : Int32) (M : wk_T) (H : Heap) (locs : List Loc) (ls : Array Slot), k8 v3 v4 v5 M = some (r0, MM) → lv_has ls 6 [(0, .ref (B 14 0 0)), (1, .ref (B 15 0 0)), (2, .ref (B 16 0 0)), (3, .int v3), (4, .int v4), (5, .int v5)] → wk_H D y B Lk M H → va_S A s.heap H locs → W p l e R s m args below meth c H locs cells slots Q (F0 m 8 ls [])) {v3 : Int32} {v5 : Int32} {M : wk_T} {H : Heap} {locs : List Loc} {ls : Array Slot} (h : f_L_needed_45 k8 v3 v5 M = some (r0, MM)) (hl : lv_has ls 6 [(0, .ref (B 14 0 0)), (1, .ref (B 15 0 0)), (2, .ref (B 16 0 0)), (3, .int v3), (5, .int v5)]) (hP : wk_H D y B Lk M H) (hS : va_S A s.heap H locs) : W p l e R s m args below meth c H locs cells slots Q (F0 m 45 ls []) := by
  obtain ⟨⟨hx, hb, hml, hown, hts⟩, hK, hI, hL, hA, hfr, hlo, hcs⟩ := id CX
  unfold f_L_needed_45 at h
  refine lv_iconst (v := 1) hx hb dL_needed_45 (by decide) ?_
  refine lv_goto (tgt := 50) hx hb dL_needed_46 (by decide) ?_
  exact w_L_needed_50 CX RT hk8 h (lv_sub hl [0, 1, 2, 3, 4] rfl) hP hS
set_option maxRecDepth 100000 in
set_option maxHeartbeats 4000000 in
theorem w_L_needed_49 {r0 : Int32} (CX : wk_X p l e R s m args below meth c cells slots Q cL_needed 6 RL wsL_needed D y B Lk A 0 0) (RT : wk_Rz p l e R s m args below meth c cells slots Q cL_needed D y B Lk A r0 MM) {k8 : Int32 → Int32 → Int32 → wk_T → Option (Int32 × wk_T)} (hk8 : ∀ (v3 : Int32) (v4 : Int32) (v5 : Int32) (M : wk_T) (H : Heap) (locs : List Loc) (ls : Array Slot), k8 v3 v4 v5 M = some (r0, MM) → lv_has ls 6 [(0, .ref (B 14 0 0)), (1, .ref (B 15 0 0)), (2, .ref (B 16 0 0)), (3, .int v3), (4, .int v4), (5, .int v5)] → wk_H D y B Lk M H → va_S A s.heap H locs → W p l e R s m args below meth c H locs cells slots Q (F0 m 8 ls [])) {v3 : Int32} {v5 : Int32} {M : wk_T} {H : Heap} {locs : List Loc} {ls : Array Slot} (h : f_L_needed_49 k8 v3 v5 M = some (r0, MM)) (hl : lv_has ls 6 [(0, .ref (B 14 0 0)), (1, .ref (B 15 0 0)), (2, .ref (B 16 0 0)), (3, .int v3), (5, .int v5)]) (hP : wk_H D y B Lk M H) (hS : va_S A s.heap H locs) : W p l e R s m args below meth c H locs cells slots Q (F0 m 49 ls []) := by
  obtain ⟨⟨hx, hb, hml, hown, hts⟩, hK, hI, hL, hA, hfr, hlo, hcs⟩ := id CX
  unfold f_L_needed_49 at h
  refine lv_iconst (v := 0) hx hb dL_needed_49 (by decide) ?_
  exact w_L_needed_50 CX RT hk8 h (lv_sub hl [0, 1, 2, 3, 4] rfl) hP hS
set_option maxRecDepth 100000 in
set_option maxHeartbeats 4000000 in
theorem w_L_needed_8 {r0 : Int32} (CX : wk_X p l e R s m args below meth c cells slots Q cL_needed 6 RL wsL_needed D y B Lk A 0 0) (RT : wk_Rz p l e R s m args below meth c cells slots Q cL_needed D y B Lk A r0 MM) : ∀ (n : Nat) (v3 : Int32) (v4 : Int32) (v5 : Int32) (M : wk_T) (H : Heap) (locs : List Loc) (ls : Array Slot), f_L_needed_8 n v3 v4 v5 M = some (r0, MM) → lv_has ls 6 [(0, .ref (B 14 0 0)), (1, .ref (B 15 0 0)), (2, .ref (B 16 0 0)), (3, .int v3), (4, .int v4), (5, .int v5)] → wk_H D y B Lk M H → va_S A s.heap H locs → W p l e R s m args below meth c H locs cells slots Q (F0 m 8 ls []) := by
  obtain ⟨⟨hx, hb, hml, hown, hts⟩, hK, hI, hL, hA, hfr, hlo, hcs⟩ := id CX
  intro n
  induction n with
  | zero =>
    intro v3 v4 v5 M H locs ls h
    exact absurd h (by rw [f_L_needed_8]; exact fun z => nomatch z)
  | succ n ih =>
    intro v3 v4 v5 M H locs ls h hl hP hS
    rw [f_L_needed_8] at h
    refine lv_iload hx hb dL_needed_8 (lv_at hl 5 rfl) ?_
    refine lv_aload_n hx hb dL_needed_10 rfl (lv_at hl 0 rfl) ?_
    refine lv_iconst (v := 0) hx hb dL_needed_11 (by decide) ?_
    refine wk_iald (j := 0) hx hb hK hP (wk_lL hL 14 (by decide) (by decide)) wk_c14 (by decide) (by decide) dL_needed_12 ?_
    refine lv_icmp_ge (tgt := 58) hx hb dL_needed_13 (by decide) (fun g1 => ?_) (fun g1 => ?_)
    · have h := wk_p g1 h
      refine lv_iload hx hb dL_needed_58 (lv_at hl 4 rfl) ?_
      obtain ⟨g2, h⟩ := wk_gd_e h
      exact RT _ _ _ _ _ _ g2 h hP hS dL_needed_60
    · have h := wk_n g1 h
      refine lv_iload hx hb dL_needed_16 (lv_at hl 4 rfl) ?_
      refine lv_if_ne (tgt := 45) hx hb dL_needed_18 (by decide) (fun g3 => ?_) (fun g3 => ?_)
      · have h := wk_n g3 h
        exact w_L_needed_45 CX RT ih h (lv_sub hl [0, 1, 2, 3, 5] rfl) hP hS
      · have h := wk_p g3 h
        refine lv_aload_n hx hb dL_needed_21 rfl (lv_at hl 1 rfl) ?_
        refine lv_bipush (v := 8) hx hb dL_needed_22 (by decide) ?_
        refine lv_iload hx hb dL_needed_24 (lv_at hl 5 rfl) ?_
        refine lv_imul hx hb dL_needed_26 ?_
        refine lv_bipush (v := 6) hx hb dL_needed_27 (by decide) ?_
        refine lv_iadd hx hb dL_needed_29 ?_
        obtain ⟨g4, h⟩ := wk_gd_e h
        refine wk_iald (j := ((8 * v5) + 6).toNatClampNeg) hx hb hK hP (wk_lL hL 15 (by decide) (by decide)) wk_c15 g4 rfl dL_needed_30 ?_
        refine lv_iload_n hx hb dL_needed_31 rfl (lv_at hl 3 rfl) ?_
        refine lv_icmp_ne (tgt := 49) hx hb dL_needed_32 (by decide) (fun g5 => ?_) (fun g5 => ?_)
        · have h := wk_n g5 h
          exact w_L_needed_49 CX RT ih h (lv_sub hl [0, 1, 2, 3, 5] rfl) hP hS
        · have h := wk_p g5 h
          refine lv_aload_n hx hb dL_needed_35 rfl (lv_at hl 2 rfl) ?_
          refine lv_bipush (v := 8) hx hb dL_needed_36 (by decide) ?_
          refine lv_iload hx hb dL_needed_38 (lv_at hl 5 rfl) ?_
          refine lv_imul hx hb dL_needed_40 ?_
          obtain ⟨g6, h⟩ := wk_gd_e h
          refine wk_iald (j := (8 * v5).toNatClampNeg) hx hb hK hP (wk_lL hL 16 (by decide) (by decide)) wk_c16 g6 rfl dL_needed_41 ?_
          refine lv_if_le (tgt := 49) hx hb dL_needed_42 (by decide) (fun g7 => ?_) (fun g7 => ?_)
          · have h := wk_p g7 h
            exact w_L_needed_49 CX RT ih h (lv_sub hl [0, 1, 2, 3, 5] rfl) hP hS
          · have h := wk_n g7 h
            exact w_L_needed_45 CX RT ih h (lv_sub hl [0, 1, 2, 3, 5] rfl) hP hS
set_option maxRecDepth 100000 in
set_option maxHeartbeats 4000000 in
theorem w_L_needed_0 {r0 : Int32} (CX : wk_X p l e R s m args below meth c cells slots Q cL_needed 6 RL wsL_needed D y B Lk A 0 0) (RT : wk_Rz p l e R s m args below meth c cells slots Q cL_needed D y B Lk A r0 MM) {v3 : Int32} {M : wk_T} {H : Heap} {locs : List Loc} {ls : Array Slot} (h : f_L_needed v3 M = some (r0, MM)) (hl : lv_has ls 6 [(0, .ref (B 14 0 0)), (1, .ref (B 15 0 0)), (2, .ref (B 16 0 0)), (3, .int v3)]) (hP : wk_H D y B Lk M H) (hS : va_S A s.heap H locs) : W p l e R s m args below meth c H locs cells slots Q (F0 m 0 ls []) := by
  obtain ⟨⟨hx, hb, hml, hown, hts⟩, hK, hI, hL, hA, hfr, hlo, hcs⟩ := id CX
  unfold f_L_needed at h
  refine lv_iconst (v := 0) hx hb dL_needed_0 (by decide) ?_
  refine lv_istore (lv' := [(4, .int 0), (0, .ref (B 14 0 0)), (1, .ref (B 15 0 0)), (2, .ref (B 16 0 0)), (3, .int v3)]) hx hb dL_needed_1 hl (by decide) rfl (fun ls hl => ?_)
  refine lv_iload_n hx hb dL_needed_3 rfl (lv_at hl 4 rfl) ?_
  refine lv_iconst (v := 1) hx hb dL_needed_4 (by decide) ?_
  refine lv_iadd hx hb dL_needed_5 ?_
  obtain ⟨x1, ex1, h⟩ := wk_lt_e h
  refine wk_topi ex1 ?_
  refine lv_istore (lv' := [(5, .int x1), (4, .int 0), (0, .ref (B 14 0 0)), (1, .ref (B 15 0 0)), (2, .ref (B 16 0 0)), (3, .int v3)]) hx hb dL_needed_6 hl (by decide) rfl (fun ls hl => ?_)
  exact w_L_needed_8 CX RT wk_fuel _ _ _ _ _ _ _ h (lv_sub hl [2, 3, 4, 5, 1, 0] rfl) hP hS
set_option maxRecDepth 100000 in
set_option maxHeartbeats 4000000 in
theorem m_L_needed (l : Launch) {D : va_G} {y : Nat → ClassId} {B : Nat → Nat → Nat → Nat} {Lk : Nat → Nat → Nat → Prop} (hI : wk_I B Lk) (hL : wk_L Lk) {v3 : Int32} {M : wk_T} {r0 : Int32} {MM : wk_T} (hf : f_L_needed v3 M = some (r0, MM)) : wk_Mi l yL_needed wsL_needed 0 0 D y B Lk [.ref (B 14 0 0), .ref (B 15 0 0), .ref (B 16 0 0), .int v3] M r0 MM :=
  wk_ofI (own := RL) (bytes := cL_needed) (maxL := 6) (ret := some .boolean) (by decide +kernel) rfl rfl (Or.inr rfl) (Nat.le_of_ble_eq_true rfl) hI hL (fun p e s m args below meth c ls CX RTi RTz hl hP hS => w_L_needed_0 CX (RTz rfl) hf hl hP hS)
end WP16
