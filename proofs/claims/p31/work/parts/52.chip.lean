section WP52
variable {p : Program} {l : Launch} {e : Env} {R : Room} {s : State} {m : MethodId} {args : Array Value} {below : List Frame} {meth : Method} {c : Code} {H : Heap} {locs : List Loc} {cells slots : Nat} {Q : State → Prop}
variable {cc : ByteArray} {pc : Nat} {ls : Array Slot} {rest : List Value} {D : va_G} {y : Nat → ClassId} {A : Nat → Prop} {H0 : Heap}
abbrev wk_cb (a b c d e : Value) : List Value := [a, .int 0, b, c, d, e, .int 0, .int 0]
def wk_rf (o i : Nat) : Nat → Option Nat := fun j => if j < i then some (o + 6 + 3 * j) else none
theorem wk_rf_0 {o : Nat} : wk_rf o 0 = fun _ => none := rfl
theorem wk_rf_s {o i : Nat} : va_up (wk_rf o i) i (some (o + 6 + 3 * i)) = wk_rf o (i + 1) := by
  funext q
  unfold va_up wk_rf
  by_cases h : q = i
  · subst h
    rw [if_pos rfl, if_pos (Nat.lt_succ_self _)]
  · rw [if_neg h]
    by_cases h2 : q < i
    · rw [if_pos h2, if_pos (by omega)]
    · rw [if_neg h2, if_neg (by omega)]
/-- a room's three cells, at o -/
def wk_r3 (D : va_G) (y : Nat → ClassId) (o : Nat) (H : Heap) : Prop := va_at D vwCl (o, .inr (2, wk_rb (.ref (o + 1)) (.ref (o + 2)))) H ∧ va_at D vwCl (o + 1, .inl (y 0, 5, .inl (fun _ => 0))) H ∧ va_at D vwCl (o + 2, .inl (y 0, 4, .inl (fun _ => 0))) H
theorem wk_r3.kept {o : Nat} {H1 : Heap} (h : wk_r3 D y o H) (hq : ∀ q, o ≤ q → q < o + 3 → H1[q]? = H[q]?) : wk_r3 D y o H1 := ⟨h.1.kept (hq _ (by omega) (by omega)), h.2.1.kept (hq _ (by show o ≤ o + 1; omega) (by show o + 1 < o + 3; omega)), h.2.2.kept (hq _ (by show o ≤ o + 2; omega) (by show o + 2 < o + 3; omega))⟩
/-- a chip at o with i of its rooms: all but its own object and its list of rooms; lm: what its limits are -/
def wk_cf (D : va_G) (y : Nat → ClassId) (o i : Nat) (lm : Nat → Int32) (H : Heap) : Prop := va_at D vwCl (o, .inr (0, wk_cb (.ref (o + 1)) (.ref (o + 2)) (.ref (o + 3)) (.ref (o + 4)) (.ref (o + 5)))) H ∧ va_at D vwCl (o + 1, .inl (y 1, 8, .inr (.inr (.inr (.inr (wk_rf o i)))))) H ∧ va_at D vwCl (o + 2, .inl (y 0, 2, .inl lm)) H ∧ va_at D vwCl (o + 3, .inl (y 0, 12, .inl (fun _ => 0))) H ∧ va_at D vwCl (o + 4, .inl (y 0, 12, .inl (fun _ => 0))) H ∧ va_at D vwCl (o + 5, .inl (y 0, 12, .inl (fun _ => 0))) H ∧ ∀ j, j < i → wk_r3 D y (o + 6 + 3 * j) H
theorem wk_cf.kept {o i : Nat} {lm : Nat → Int32} {H1 : Heap} (h : wk_cf D y o i lm H) (hq : ∀ q, o ≤ q → q < o + 6 + 3 * i → H1[q]? = H[q]?) : wk_cf D y o i lm H1 := by
  obtain ⟨h0, h1, h2, h3, h4, h5, h6⟩ := h
  refine ⟨h0.kept (hq _ ?_ ?_), h1.kept (hq _ ?_ ?_), h2.kept (hq _ ?_ ?_), h3.kept (hq _ ?_ ?_), h4.kept (hq _ ?_ ?_), h5.kept (hq _ ?_ ?_), fun j hj => (h6 j hj).kept (fun q q1 q2 => hq q (by omega) (by omega))⟩ <;> dsimp only <;> omega
/-- the words and what else the constructor of a chip needs -/
def wk_N0 (U : State) : Prop := va_Nw (.methodLinkNest "WokenRooms$Chip" 30 yX2_init "WokenRooms") U ∧ va_AO "WokenRooms$Room" U
theorem wk_N0.moved {u U : State} (hW : u.WarmedH U.vm) (h : wk_N0 u) : wk_N0 U := ⟨va_Nw.warmM hW h.1, va_AO.moved hW.alike h.2⟩
theorem wk_N0.calling {U : State} {g : JFrame} {mk : MethodId} {a : Array Value} (h : wk_N0 U) : wk_N0 (U.calling g mk a) := ⟨va_Nw.same rfl rfl h.1, va_AO.moved (u := U) (U := U.calling g mk a) (Vm.Alike.refl U.vm) h.2⟩
set_option maxRecDepth 100000 in
set_option maxHeartbeats 4000000 in
theorem w_X0_init_46 {o : Nat} (hx : p.tables.exec = Jvm.exec) (hb : c.code = cX0_init) (hml : c.maxLocals = 2) (hown : s.vm.findClass RX0 = some m.cls) (hts : ∀ w ∈ wsX0_init, w.before args s = true) (hK : wk_K D y s) (hN : wk_N0 s) (hfr : 2 ≤ R.frames) (hlo : 32 ≤ R.locals) (hRc : 29 ≤ R.cells) (hRs : 238 ≤ R.slots)
    (kk : ∀ (H : Heap) (locs : List Loc) (ls : Array Slot) (cells slots : Nat), cells ≤ 29 → slots ≤ 238 → H.size = o + 30 → wk_cf D y o 8 (fun _ => 0) H → lv_has ls 2 [(1, .int (nI 8)), (0, .ref o)] → va_S (fun q => o ≤ q) s.heap H locs → W p l e R s m args below meth c H locs cells slots Q (F0 m 71 ls [])) :
    ∀ (d i : Nat) (H : Heap) (locs : List Loc) (ls : Array Slot) (cells slots : Nat), 8 - i = d → i ≤ 8 → cells ≤ 5 + 3 * i → slots ≤ 46 + 24 * i → H.size = o + 6 + 3 * i → wk_cf D y o i (fun _ => 0) H → lv_has ls 2 [(1, .int (nI i)), (0, .ref o)] → va_S (fun q => o ≤ q) s.heap H locs → W p l e R s m args below meth c H locs cells slots Q (F0 m 46 ls []) := by
  intro d
  induction d with
  | zero =>
    intro i H locs ls cells slots hd hi hc hsl hz hf hl hS
    have hi8 : i = 8 := by omega
    subst hi8
    refine lv_iload_n hx hb dX0_init_46 rfl (lv_at hl 0 rfl) ?_
    refine lv_bipush (v := 8) hx hb dX0_init_47 (by decide) ?_
    refine lv_icmp_ge (tgt := 71) hx hb dX0_init_49 (by decide) (fun g => ?_) (fun g => ?_)
    · exact kk H locs ls cells slots (by omega) (by omega) (by omega) hf hl hS
    · exact absurd (show (8 : Int32) ≤ nI 8 from Int32.le_refl _) g
  | succ d ih =>
    intro i H locs ls cells slots hd hi hc hsl hz hf hl hS
    have hlt : i < 8 := by omega
    refine lv_iload_n hx hb dX0_init_46 rfl (lv_at hl 0 rfl) ?_
    refine lv_bipush (v := 8) hx hb dX0_init_47 (by decide) ?_
    refine lv_icmp_ge (tgt := 71) hx hb dX0_init_49 (by decide) (fun g => ?_) (fun g => ?_)
    · exact absurd ((nI_leI (a := 8) (b := i) (by omega) (by omega)).mp g) (by omega)
    · refine lv_aload_n hx hb dX0_init_52 rfl (lv_at hl 1 rfl) ?_
      refine va_get (ws := [(o, .inr (0, wk_cb (.ref (o + 1)) (.ref (o + 2)) (.ref (o + 3)) (.ref (o + 4)) (.ref (o + 5))))]) (v := .ref (o + 1)) (C := RX0) (T := TX0) (N := 8) hx hb hts (fun w hw => List.mem_cons_of_mem _ (List.mem_append_left _ (List.mem_append_right _ hw))) hown hK.1 (wk_p1 hf.1) 0 rfl rfl 0 (by decide) (hts _ (List.mem_of_getElem? (i := 5) rfl)) (fun _ h9 => h9) rfl dX0_init_53 ?_
      refine lv_iload_n hx hb dX0_init_56 rfl (lv_at hl 0 rfl) ?_
      refine wk_nobj (h := o + 6 + 3 * i) (ci := 2) (fs := wk_rb .null .null) (C := RX2) (T := TX2) (N := 15) hx hb hts (fun w hw => List.mem_cons_of_mem _ (List.mem_append_right _ hw)) tyX2 tyX2_ok hown (hts _ (List.mem_of_getElem? (i := 4) rfl)) (hts _ (List.mem_of_getElem? (i := 11) rfl)) (hts _ (List.mem_of_getElem? (i := 12) rfl)) hK rfl (fun j hj => by rcases (show j = 0 ∨ j = 1 ∨ j = 2 ∨ j = 3 ∨ j = 4 ∨ j = 5 ∨ j = 6 ∨ j = 7 ∨ j = 8 ∨ j = 9 ∨ j = 10 ∨ j = 11 ∨ j = 12 ∨ j = 13 ∨ j = 14 by omega) with rfl | rfl | rfl | rfl | rfl | rfl | rfl | rfl | rfl | rfl | rfl | rfl | rfl | rfl | rfl <;> rfl) (by omega) (by omega) hz dX0_init_57 (fun H1 e1 z1 o1 => ?_)
      have hf := hf.kept (fun q q1 q2 => o1 q (by omega))
      have hS := wk_grow hS hz z1 o1
      refine lv_dup hx hb dX0_init_60 rfl ?_
      refine va_callv (va_runIN (As := []) (rest := [.ref (o + 6 + 3 * i), .int (nI i), .ref (o + 1)]) ⟨hx, hb, hml, hown, hts⟩ (m_X2_init (D := D) (y := y) l (o := o + 6 + 3 * i)) ⟨va_cnB 0 hts gX0_init_X2_init_n30 rfl rfl rfl hN.1 (hts _ (List.mem_of_getElem? (i := 12) rfl)) (by decide +kernel) ⟨hfr, hlo⟩, rfl, hts _ (List.mem_of_getElem? (i := 13) rfl)⟩ ⟨fun _ _ _ _ q => ⟨q.1, q.2.1, q.2.2.1, wk_K.calling q.2.2.2⟩, fun U hU hW => ⟨rfl, by rw [hU]; exact z1, by rw [hU]; exact e1, hK.moved hW⟩⟩ rfl rfl hl.1 rfl (lv_room (Nat.le_of_ble_eq_true rfl)) dX0_init_61 ⟨by show cells + 1 + 2 ≤ _; omega, by show slots + 15 + 9 ≤ _; omega⟩) hS (fun q _ h => by show o ≤ q; have h2 : o + 6 + 3 * i ≤ q := h; omega) (fun q h => by show o ≤ q; have h2 : o + 6 + 3 * i ≤ q := h; omega) (fun u t H2 locs2 ht hvm hw hB hz2 hk2 hS => ?_)
      obtain ⟨b1, b2, b3, b4⟩ := hB
      rw [ht] at b1 b2 b3 b4
      have hf := hf.kept (fun q q1 q2 => hk2 q (by omega) (fun h => by have h2 : o + 6 + 3 * i ≤ q := h; omega))
      obtain ⟨f0, f1, f2, f3, f4, f5, f6⟩ := hf
      refine wk_qst (t0 := 1) (r := (RX2, TX2, 15)) (A := fun q => o ≤ q) hx hb hK f1 rfl b2 hS (by show o ≤ o + 1; omega) rfl (i := nI i) (by rw [nI_clamp (show i < 2147483648 by omega)]; exact fun z => z.elim (s_neg (by omega)) (by omega)) dX0_init_64 (fun H3 locs3 g1 z3 o3 hS => ?_)
      rw [nI_clamp (show i < 2147483648 by omega), wk_rf_s] at g1
      refine lv_iinc (v := nI (i + 1)) (lv' := [(1, .int (nI (i + 1))), (0, .ref o)]) hx hb dX0_init_65 hl (k := 0) rfl (by rw [← s_a1]; rfl) (by decide) rfl (fun ls hl => ?_)
      refine lv_goto (tgt := 46) hx hb dX0_init_68 (by decide) ?_
      refine ih (i + 1) H3 locs3 ls _ _ (by omega) (by omega) (by omega) (by omega) (by rw [z3, b1]; omega) ⟨f0.kept (o3 _ ?_), g1, f2.kept (o3 _ ?_), f3.kept (o3 _ ?_), f4.kept (o3 _ ?_), f5.kept (o3 _ ?_), fun j hj => ?_⟩ hl hS
      · dsimp only; omega
      · dsimp only; omega
      · dsimp only; omega
      · dsimp only; omega
      · dsimp only; omega
      · by_cases q : j = i
        · subst q
          exact wk_r3.kept ⟨b2, b3, b4⟩ (fun q q1 q2 => o3 q (by omega))
        · exact (f6 j (by omega)).kept (fun q q1 q2 => o3 q (by omega))
def wk_l2 : Nat → Int32 := upd (upd (fun _ => 0) 0 2) 1 2
theorem wk_l2_0 : wk_l2 0 = 2 := by decide
theorem wk_l2_1 : wk_l2 1 = 2 := by decide
set_option maxRecDepth 100000 in
set_option maxHeartbeats 4000000 in
/-- a new chip: 29 cells after its own -/
theorem m_X0_init (l : Launch) {o : Nat} : Met l yX0_init wsX0_init ({ frames := 2, cells := 29, slots := 238, locals := 32 }) (va_Pc [.ref o] (fun U => U.heap.size = o + 1 ∧ va_at D vwCl (o, .inr (0, wk_cb .null .null .null .null .null)) U.heap ∧ wk_K D y U ∧ wk_N0 U)) (va_Qv (fun _ : Unit => True) (fun _ t => t.heap.size = o + 30 ∧ wk_cf D y o 8 wk_l2 t.heap) (fun q => o ≤ q)) 29 238 (fun q => o ≤ q) := by
  refine Met.ofW (cc := cX0_init) (maxL := 2) (ret := none) (by decide +kernel) rfl ?_
  intro p e s m args below meth c s₁ Bd hml hv
  obtain ⟨rfl, hsz, h0, hK, hN⟩ := hv
  have hx := Bd.exec
  have hb := Bd.bytes
  have hr := Bd.returns
  have hts := atoms_spec (ws := wsX0_init) Bd.pre
  have hown : s.vm.findClass RX0 = some m.cls := findClass_of_methodNamed Bd.named
  have hlocks := Bd.notSynchronized
  have hin : meth.name = "<init>" := (name_of_methodNamed Bd.named Bd.method).1
  have hS : va_S (fun q => o ≤ q) s.heap s.heap [] := va_S.rf
  have hw0 : ∀ w ∈ u_ws RX0 TX0 8, w ∈ wsX0_init := fun w hw => List.mem_cons_of_mem _ (List.mem_append_left _ (List.mem_append_right _ hw))
  have hl := lv_entry ([.ref o]) (n := 2) (Nat.le_of_ble_eq_true rfl)
  rw [lg_entry_eq]
  generalize (lg_sl ([.ref o]) ++ List.replicate (2 - (lg_sl ([.ref o])).length) Slot.unset).toArray = ls at hl ⊢
  have hl : lv_has ls 2 [(0, .ref o)] := hl
  refine lv_aload_n hx hb dX0_init_0 rfl (lv_at hl 0 rfl) ?_
  refine W.objInit hx hb hown (hts _ (List.mem_of_getElem? (i := 1) rfl)) (hts _ (List.mem_of_getElem? (i := 2) rfl)) (hts _ (List.mem_of_getElem? (i := 3) rfl)) rfl (by rw [hml]; exact hl.1) rfl dX0_init_1 (Nat.le_of_ble_eq_true rfl) (Nat.le_of_ble_eq_true rfl) ?_
  refine W.eq (g2 := F0 m 4 ls []) rfl ?_
  refine lv_aload_n hx hb dX0_init_4 rfl (lv_at hl 0 rfl) ?_
  refine lv_bipush (v := 8) hx hb dX0_init_5 (by decide) ?_
  refine wk_nref (C := RX2) (t0 := 1) (cY := y 1) (h := o + 1) (N := 8) hx hb hown (hts _ (List.mem_of_getElem? (i := 4) rfl)) hN.2 hK rfl (by decide) (by decide) (by decide) (Nat.le_of_ble_eq_true rfl) (Nat.le_of_ble_eq_true rfl) hsz dX0_init_7 (fun H1 e1 z1 o1 => ?_)
  have h0 := h0.kept (o1 o (by omega))
  have hS := wk_grow hS hsz z1 o1
  refine wk_pfin (own := RX0) (fs' := wk_cb (.ref (o + 1)) .null .null .null .null) (ty := .array (.object RX2)) hx hb hts hw0 tyX0 tyX0_ok nmX0 hown hK h0 hS (Nat.le_refl o) (show vwCl[0]? = some (RX0, TX0, 8) from rfl) 0 (by decide) (hts _ (List.mem_of_getElem? (i := 5) rfl)) rfl hin rfl (by decide +kernel) rfl rfl (show (0 : Nat) < 8 by decide) rfl dX0_init_10 (fun H2 locs2 h0 z2 o2 hS => ?_)
  have e1 := e1.kept (o2 (o + 1) (by omega))
  refine lv_aload_n hx hb dX0_init_13 rfl (lv_at hl 0 rfl) ?_
  refine lv_iconst (v := 2) hx hb dX0_init_14 (by decide) ?_
  have z2 := z2.trans z1
  refine wk_nint (h := o + 2) (N := 2) hx hb (hts _ (List.mem_of_getElem? (i := 6) rfl)) hK (by decide) (by decide) (by decide) (Nat.le_of_ble_eq_true rfl) (Nat.le_of_ble_eq_true rfl) z2 dX0_init_15 (fun H3 e2 z3 o3 => ?_)
  have h0 := h0.kept (o3 o (by omega))
  have e1 := e1.kept (o3 (o + 1) (by omega))
  have hS := wk_grow hS z2 z3 o3
  refine wk_pfin (own := RX0) (fs' := wk_cb (.ref (o + 1)) (.ref (o + 2)) .null .null .null) (ty := .array .int) hx hb hts hw0 tyX0 tyX0_ok nmX0 hown hK h0 hS (Nat.le_refl o) (show vwCl[0]? = some (RX0, TX0, 8) from rfl) 2 (by decide) (hts _ (List.mem_of_getElem? (i := 7) rfl)) rfl hin rfl (by decide +kernel) rfl rfl (show (2 : Nat) < 8 by decide) rfl dX0_init_17 (fun H4 locs4 h0 z4 o4 hS => ?_)
  have e1 := e1.kept (o4 (o + 1) (by omega))
  have e2 := e2.kept (o4 (o + 2) (by omega))
  refine lv_aload_n hx hb dX0_init_20 rfl (lv_at hl 0 rfl) ?_
  refine lv_bipush (v := 12) hx hb dX0_init_21 (by decide) ?_
  have z4 := z4.trans z3
  refine wk_nint (h := o + 3) (N := 12) hx hb (hts _ (List.mem_of_getElem? (i := 6) rfl)) hK (by decide) (by decide) (by decide) (Nat.le_of_ble_eq_true rfl) (Nat.le_of_ble_eq_true rfl) z4 dX0_init_23 (fun H5 e3 z5 o5 => ?_)
  have h0 := h0.kept (o5 o (by omega))
  have e1 := e1.kept (o5 (o + 1) (by omega))
  have e2 := e2.kept (o5 (o + 2) (by omega))
  have hS := wk_grow hS z4 z5 o5
  refine wk_pfin (own := RX0) (fs' := wk_cb (.ref (o + 1)) (.ref (o + 2)) (.ref (o + 3)) .null .null) (ty := .array .int) hx hb hts hw0 tyX0 tyX0_ok nmX0 hown hK h0 hS (Nat.le_refl o) (show vwCl[0]? = some (RX0, TX0, 8) from rfl) 3 (by decide) (hts _ (List.mem_of_getElem? (i := 8) rfl)) rfl hin rfl (by decide +kernel) rfl rfl (show (3 : Nat) < 8 by decide) rfl dX0_init_25 (fun H6 locs6 h0 z6 o6 hS => ?_)
  have e1 := e1.kept (o6 (o + 1) (by omega))
  have e2 := e2.kept (o6 (o + 2) (by omega))
  have e3 := e3.kept (o6 (o + 3) (by omega))
  refine lv_aload_n hx hb dX0_init_28 rfl (lv_at hl 0 rfl) ?_
  refine lv_bipush (v := 12) hx hb dX0_init_29 (by decide) ?_
  have z6 := z6.trans z5
  refine wk_nint (h := o + 4) (N := 12) hx hb (hts _ (List.mem_of_getElem? (i := 6) rfl)) hK (by decide) (by decide) (by decide) (Nat.le_of_ble_eq_true rfl) (Nat.le_of_ble_eq_true rfl) z6 dX0_init_31 (fun H7 e4 z7 o7 => ?_)
  have h0 := h0.kept (o7 o (by omega))
  have e1 := e1.kept (o7 (o + 1) (by omega))
  have e2 := e2.kept (o7 (o + 2) (by omega))
  have e3 := e3.kept (o7 (o + 3) (by omega))
  have hS := wk_grow hS z6 z7 o7
  refine wk_pfin (own := RX0) (fs' := wk_cb (.ref (o + 1)) (.ref (o + 2)) (.ref (o + 3)) (.ref (o + 4)) .null) (ty := .array .int) hx hb hts hw0 tyX0 tyX0_ok nmX0 hown hK h0 hS (Nat.le_refl o) (show vwCl[0]? = some (RX0, TX0, 8) from rfl) 4 (by decide) (hts _ (List.mem_of_getElem? (i := 9) rfl)) rfl hin rfl (by decide +kernel) rfl rfl (show (4 : Nat) < 8 by decide) rfl dX0_init_33 (fun H8 locs8 h0 z8 o8 hS => ?_)
  have e1 := e1.kept (o8 (o + 1) (by omega))
  have e2 := e2.kept (o8 (o + 2) (by omega))
  have e3 := e3.kept (o8 (o + 3) (by omega))
  have e4 := e4.kept (o8 (o + 4) (by omega))
  refine lv_aload_n hx hb dX0_init_36 rfl (lv_at hl 0 rfl) ?_
  refine lv_bipush (v := 12) hx hb dX0_init_37 (by decide) ?_
  have z8 := z8.trans z7
  refine wk_nint (h := o + 5) (N := 12) hx hb (hts _ (List.mem_of_getElem? (i := 6) rfl)) hK (by decide) (by decide) (by decide) (Nat.le_of_ble_eq_true rfl) (Nat.le_of_ble_eq_true rfl) z8 dX0_init_39 (fun H9 e5 z9 o9 => ?_)
  have h0 := h0.kept (o9 o (by omega))
  have e1 := e1.kept (o9 (o + 1) (by omega))
  have e2 := e2.kept (o9 (o + 2) (by omega))
  have e3 := e3.kept (o9 (o + 3) (by omega))
  have e4 := e4.kept (o9 (o + 4) (by omega))
  have hS := wk_grow hS z8 z9 o9
  refine wk_pfin (own := RX0) (fs' := wk_cb (.ref (o + 1)) (.ref (o + 2)) (.ref (o + 3)) (.ref (o + 4)) (.ref (o + 5))) (ty := .array .int) hx hb hts hw0 tyX0 tyX0_ok nmX0 hown hK h0 hS (Nat.le_refl o) (show vwCl[0]? = some (RX0, TX0, 8) from rfl) 5 (by decide) (hts _ (List.mem_of_getElem? (i := 10) rfl)) rfl hin rfl (by decide +kernel) rfl rfl (show (5 : Nat) < 8 by decide) rfl dX0_init_41 (fun H10 locs10 h0 z10 o10 hS => ?_)
  have e1 := e1.kept (o10 (o + 1) (by omega))
  have e2 := e2.kept (o10 (o + 2) (by omega))
  have e3 := e3.kept (o10 (o + 3) (by omega))
  have e4 := e4.kept (o10 (o + 4) (by omega))
  have e5 := e5.kept (o10 (o + 5) (by omega))
  have z10 := z10.trans z9
  refine lv_iconst (v := 0) hx hb dX0_init_44 (by decide) ?_
  refine lv_istore_n (lv' := [(1, .int 0), (0, .ref o)]) hx hb dX0_init_45 rfl hl (by decide) rfl (fun ls hl => ?_)
  refine w_X0_init_46 (l := l) (o := o) hx hb hml hown hts hK hN (Nat.le_refl _) (Nat.le_refl _) (Nat.le_refl _) (Nat.le_refl _) (fun H locs ls cells slots hc hsl hz hf hl hS => ?_) 8 0 H10 locs10 ls _ _ rfl (by omega) (Nat.le_of_ble_eq_true rfl) (Nat.le_of_ble_eq_true rfl) z10 ⟨h0, by rw [wk_rf_0]; exact e1, e2, e3, e4, e5, fun j hj => absurd hj (by omega)⟩ hl hS
  clear h0 e1 e2 e3 e4 e5
  obtain ⟨f0, f1, f2, f3, f4, f5, f6⟩ := hf
  refine lv_iconst (v := 0) hx hb dX0_init_71 (by decide) ?_
  refine lv_istore_n (lv' := [(1, .int 0), (0, .ref o)]) hx hb dX0_init_72 rfl hl (by decide) rfl (fun ls hl => ?_)
  refine lv_iload_n hx hb dX0_init_73 rfl (lv_at hl 0 rfl) ?_
  refine lv_iconst (v := 2) hx hb dX0_init_74 (by decide) ?_
  refine lv_icmp_ge (tgt := 91) hx hb dX0_init_75 (by decide) (fun g => absurd g (by decide)) (fun _ => ?_)
  refine lv_aload_n hx hb dX0_init_78 rfl (lv_at hl 1 rfl) ?_
  refine va_get (ws := [(o, .inr (0, wk_cb (.ref (o + 1)) (.ref (o + 2)) (.ref (o + 3)) (.ref (o + 4)) (.ref (o + 5))))]) (v := .ref (o + 2)) (C := RX0) (T := TX0) (N := 8) hx hb hts hw0 hown hK.1 (wk_p1 f0) 0 rfl rfl 2 (by decide) (hts _ (List.mem_of_getElem? (i := 7) rfl)) (fun _ h9 => h9) rfl dX0_init_79 ?_
  refine lv_iload_n hx hb dX0_init_82 rfl (lv_at hl 0 rfl) ?_
  refine lv_iconst (v := 2) hx hb dX0_init_83 (by decide) ?_
  refine wk_ist (j := 0) (A := fun q => o ≤ q) hx hb hK f2 hS (by show o ≤ o + 2; omega) (by decide) (by decide) dX0_init_84 (fun H11 locs11 f2 z11 o11 hS => ?_)
  refine lv_iinc (v := 1) (lv' := [(1, .int 1), (0, .ref o)]) hx hb dX0_init_85 hl (k := 0) rfl (by decide) (by decide) rfl (fun ls hl => ?_)
  refine lv_goto (tgt := 73) hx hb dX0_init_88 (by decide) ?_
  refine lv_iload_n hx hb dX0_init_73 rfl (lv_at hl 0 rfl) ?_
  refine lv_iconst (v := 2) hx hb dX0_init_74 (by decide) ?_
  refine lv_icmp_ge (tgt := 91) hx hb dX0_init_75 (by decide) (fun g => absurd g (by decide)) (fun _ => ?_)
  have f0 := f0.kept (o11 o (by omega))
  refine lv_aload_n hx hb dX0_init_78 rfl (lv_at hl 1 rfl) ?_
  refine va_get (ws := [(o, .inr (0, wk_cb (.ref (o + 1)) (.ref (o + 2)) (.ref (o + 3)) (.ref (o + 4)) (.ref (o + 5))))]) (v := .ref (o + 2)) (C := RX0) (T := TX0) (N := 8) hx hb hts hw0 hown hK.1 (wk_p1 f0) 0 rfl rfl 2 (by decide) (hts _ (List.mem_of_getElem? (i := 7) rfl)) (fun _ h9 => h9) rfl dX0_init_79 ?_
  refine lv_iload_n hx hb dX0_init_82 rfl (lv_at hl 0 rfl) ?_
  refine lv_iconst (v := 2) hx hb dX0_init_83 (by decide) ?_
  refine wk_ist (j := 1) (A := fun q => o ≤ q) hx hb hK f2 hS (by show o ≤ o + 2; omega) (by decide) (by decide) dX0_init_84 (fun H12 locs12 f2 z12 o12 hS => ?_)
  refine lv_iinc (v := 2) (lv' := [(1, .int 2), (0, .ref o)]) hx hb dX0_init_85 hl (k := 0) rfl (by decide) (by decide) rfl (fun ls hl => ?_)
  refine lv_goto (tgt := 73) hx hb dX0_init_88 (by decide) ?_
  refine lv_iload_n hx hb dX0_init_73 rfl (lv_at hl 0 rfl) ?_
  refine lv_iconst (v := 2) hx hb dX0_init_74 (by decide) ?_
  refine lv_icmp_ge (tgt := 91) hx hb dX0_init_75 (by decide) (fun _ => ?_) (fun g => absurd (show (2 : Int32) ≤ 2 by decide) g)
  have f0 := f0.kept (o12 o (by omega))
  have oo : ∀ q : Nat, q ≠ o + 2 → H12[q]? = H[q]? := fun q hq => (o12 q hq).trans (o11 q hq)
  have hfin : wk_cf D y o 8 wk_l2 H12 := ⟨f0, f1.kept (oo (o + 1) (by omega)), f2, f3.kept (oo (o + 3) (by omega)), f4.kept (oo (o + 4) (by omega)), f5.kept (oo (o + 5) (by omega)), fun j hj => (f6 j hj).kept (fun q q1 q2 => oo q (by omega))⟩
  refine W.widen (k := 29) (n := 238) hc hsl ?_
  exact W.vret hx hb hr (fun t ht hW => ⟨⟨(), rfl, trivial, by rw [ht]; exact z12.trans (z11.trans hz), by rw [ht]; exact hfin⟩, hS.F ht⟩) hS.2.2 dX0_init_91
end WP52
