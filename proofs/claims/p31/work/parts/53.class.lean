section WP53
variable {p : Program} {l : Launch} {e : Env} {R : Room} {s : State} {m : MethodId} {args : Array Value} {below : List Frame} {meth : Method} {c : Code} {H : Heap} {locs : List Loc} {cells slots : Nat} {Q : State → Prop}
variable {cc : ByteArray} {pc : Nat} {ls : Array Slot} {rest : List Value} {D : va_G} {y : Nat → ClassId} {A : Nat → Prop} {H0 : Heap}
/-- what the constructor of the class needs besides its words -/
def wk_N3 (U : State) : Prop := wk_N0 U ∧ va_Nw (.methodLinkNest "WokenRooms" 25 yX1_init "WokenRooms") U ∧ va_AO "WokenRooms$Chip" U
theorem wk_N3.moved {u U : State} (hW : u.WarmedH U.vm) (h : wk_N3 u) : wk_N3 U := ⟨wk_N0.moved hW h.1, va_Nw.warmM hW h.2.1, va_AO.moved hW.alike h.2.2⟩
theorem wk_N3.calling {U : State} {g : JFrame} {mk : MethodId} {a : Array Value} (h : wk_N3 U) : wk_N3 (U.calling g mk a) := ⟨wk_N0.calling h.1, va_Nw.same rfl rfl h.2.1, va_AO.moved (u := U) (U := U.calling g mk a) (Vm.Alike.refl U.vm) h.2.2⟩
abbrev wk_wb (a b c d : Value) : List Value := [a, b, c, .int 0, d]
def wk_hr (o i : Nat) : Nat → Option Nat := fun j => if j < i then some (o + 62 + 30 * j) else none
theorem wk_hr_0 {o : Nat} : wk_hr o 0 = fun _ => none := rfl
theorem wk_hr_s {o i : Nat} : va_up (wk_hr o i) i (some (o + 62 + 30 * i)) = wk_hr o (i + 1) := by
  funext q
  unfold va_up wk_hr
  by_cases h : q = i
  · subst h
    rw [if_pos rfl, if_pos (Nat.lt_succ_self _)]
  · rw [if_neg h]
    by_cases h2 : q < i
    · rw [if_pos h2, if_pos (by omega)]
    · rw [if_neg h2, if_neg (by omega)]
set_option maxRecDepth 100000 in
set_option maxHeartbeats 4000000 in
theorem wk_newChip {o h : Nat} (hx : p.tables.exec = Jvm.exec) (hb : c.code = cX3_init) (hml : c.maxLocals = 2) (hown : s.vm.findClass RX3 = some m.cls) (hts : ∀ w ∈ wsX3_init, w.before args s = true) (hK : wk_K D y s) (hN : wk_N3 s) (hfr : 3 ≤ R.frames) (hlo : 53 ≤ R.locals) (hRc : cells + 30 ≤ R.cells) (hRs : slots + 246 ≤ R.slots) (hsz : H.size = h) (ho : o ≤ h) (hls : ls.size = 2) (hS : va_S (fun q => o ≤ q) s.heap H locs)
    (d1 : decode cX3_init pc = .ok (.new 7, 3)) (d2 : decode cX3_init (pc + 3) = .ok (.dup, 1)) (d3 : decode cX3_init (pc + 3 + 1) = .ok (.invokespecial 9, 3)) (hW : 2 * (F0 m (pc + 3 + 1) ls (.ref h :: .ref h :: rest)).monitorRoom + ((Value.ref h :: rest).map fun v => v.category).sum ≤ 8) (hdup : 1 = 1)
    (kk : ∀ (H1 : Heap) (locs1 : List Loc), H1.size = h + 30 → wk_cf D y h 8 wk_l2 H1 → (∀ q : Nat, q < h → H1[q]? = H[q]?) → va_S (fun q => o ≤ q) s.heap H1 locs1 → W p l e R s m args below meth c H1 locs1 (cells + 1 + 29) (slots + 8 + 238) Q (F0 m (pc + 3 + 1 + 3) ls (.ref h :: rest))) : W p l e R s m args below meth c H locs cells slots Q (F0 m pc ls rest) := by
  refine wk_nobj (h := h) (ci := 0) (fs := wk_cb .null .null .null .null .null) (C := RX0) (T := TX0) (N := 8) hx hb hts (fun w hw => List.mem_cons_of_mem _ (List.mem_append_left _ (List.mem_append_left _ (List.mem_append_left _ (List.mem_append_right _ hw))))) tyX0 tyX0_ok hown (hts _ (List.mem_of_getElem? (i := 4) rfl)) (hts _ (List.mem_of_getElem? (i := 5) rfl)) (hts _ (List.mem_of_getElem? (i := 6) rfl)) hK rfl (fun j hj => by rcases (show j = 0 ∨ j = 1 ∨ j = 2 ∨ j = 3 ∨ j = 4 ∨ j = 5 ∨ j = 6 ∨ j = 7 by omega) with rfl | rfl | rfl | rfl | rfl | rfl | rfl | rfl <;> rfl) (by omega) (by omega) hsz d1 (fun H1 e1 z1 o1 => ?_)
  have hS := wk_grow hS hsz z1 o1
  refine lv_dup hx hb d2 rfl ?_
  refine va_callv (va_runI (As := []) (rest := .ref h :: rest) ⟨hx, hb, hml, hown, hts⟩ (m_X0_init (D := D) (y := y) l (o := h)) (cwI 0 hts gX3_init_X0_init rfl rfl rfl (hts _ (List.mem_of_getElem? (i := 6) rfl)) (hts _ (List.mem_of_getElem? (i := 14) rfl)) (hts _ (List.mem_of_getElem? (i := 15) rfl)) rfl (by decide +kernel) ⟨hfr, hlo⟩) ⟨fun _ _ _ _ q => ⟨q.1, q.2.1, q.2.2.1, wk_K.calling q.2.2.2.1, wk_N0.calling q.2.2.2.2⟩, fun U hU hW => ⟨rfl, by rw [hU]; exact z1, by rw [hU]; exact e1, hK.moved hW, hN.1.moved hW⟩⟩ rfl rfl hls rfl hW d3 ⟨by show cells + 1 + 29 ≤ _; omega, by show slots + 8 + 238 ≤ _; omega⟩) hS (fun q _ h1 => by show o ≤ q; have h2 : h ≤ q := h1; omega) (fun q h1 => by show o ≤ q; have h2 : h ≤ q := h1; omega) (fun u t H2 locs2 ht hvm hw hB hz2 hk2 hS => ?_)
  obtain ⟨b1, b2⟩ := hB
  rw [ht] at b1 b2
  exact kk H2 locs2 b1 b2 (fun q hq => (hk2 q (by omega) (fun h1 => by have h2 : h ≤ q := h1; omega)).trans (o1 q hq)) hS
/-- the class's object with i of the history's chips, its orders not set -/
def wk_hf (D : va_G) (y : Nat → ClassId) (o i : Nat) (d : Value) (H : Heap) : Prop := va_at D vwCl (o, .inr (3, wk_wb (.ref (o + 1)) (.ref (o + 31)) (.ref (o + 61)) d)) H ∧ wk_cf D y (o + 1) 8 wk_l2 H ∧ wk_cf D y (o + 31) 8 wk_l2 H ∧ va_at D vwCl (o + 61, .inl (y 2, 5, .inr (.inr (.inr (.inr (wk_hr o i)))))) H ∧ ∀ j, j < i → wk_cf D y (o + 62 + 30 * j) 8 wk_l2 H
theorem wk_hf.kept {o i : Nat} {d : Value} {H1 : Heap} (h : wk_hf D y o i d H) (hq : ∀ q, o ≤ q → q < o + 62 + 30 * i → H1[q]? = H[q]?) : wk_hf D y o i d H1 := by
  obtain ⟨h0, h1, h2, h3, h4⟩ := h
  exact ⟨h0.kept (hq _ (by dsimp only; omega) (by dsimp only; omega)), h1.kept (fun q q1 q2 => hq q (by omega) (by omega)), h2.kept (fun q q1 q2 => hq q (by omega) (by omega)), h3.kept (hq _ (by dsimp only; omega) (by dsimp only; omega)), fun j hj => (h4 j hj).kept (fun q q1 q2 => hq q (by omega) (by omega))⟩
set_option maxRecDepth 100000 in
set_option maxHeartbeats 4000000 in
theorem w_X3_init_36 {o : Nat} (hx : p.tables.exec = Jvm.exec) (hb : c.code = cX3_init) (hml : c.maxLocals = 2) (hown : s.vm.findClass RX3 = some m.cls) (hts : ∀ w ∈ wsX3_init, w.before args s = true) (hK : wk_K D y s) (hN : wk_N3 s) (hfr : 3 ≤ R.frames) (hlo : 53 ≤ R.locals) (hRc : 211 ≤ R.cells) (hRs : 1727 ≤ R.slots)
    (kk : ∀ (H : Heap) (locs : List Loc) (ls : Array Slot) (cells slots : Nat), cells ≤ 211 → slots ≤ 1727 → H.size = o + 212 → wk_hf D y o 5 .null H → lv_has ls 2 [(1, .int (nI 5)), (0, .ref o)] → va_S (fun q => o ≤ q) s.heap H locs → W p l e R s m args below meth c H locs cells slots Q (F0 m 64 ls [])) :
    ∀ (d i : Nat) (H : Heap) (locs : List Loc) (ls : Array Slot) (cells slots : Nat), 5 - i = d → i ≤ 5 → cells ≤ 61 + 30 * i → slots ≤ 497 + 246 * i → H.size = o + 62 + 30 * i → wk_hf D y o i .null H → lv_has ls 2 [(1, .int (nI i)), (0, .ref o)] → va_S (fun q => o ≤ q) s.heap H locs → W p l e R s m args below meth c H locs cells slots Q (F0 m 36 ls []) := by
  have hw3 : ∀ w ∈ u_ws RX3 TX3 5, w ∈ wsX3_init := fun w hw => List.mem_cons_of_mem _ (List.mem_append_left _ (List.mem_append_left _ (List.mem_append_right _ hw)))
  intro d
  induction d with
  | zero =>
    intro i H locs ls cells slots hd hi hc hsl hz hf hl hS
    have hi5 : i = 5 := by omega
    subst hi5
    obtain ⟨f0, f1, f2, f3, f4⟩ := id hf
    refine lv_iload_n hx hb dX3_init_36 rfl (lv_at hl 0 rfl) ?_
    refine lv_aload_n hx hb dX3_init_37 rfl (lv_at hl 1 rfl) ?_
    refine va_get (ws := [(o, .inr (3, wk_wb (.ref (o + 1)) (.ref (o + 31)) (.ref (o + 61)) .null))]) (v := .ref (o + 61)) (C := RX3) (T := TX3) (N := 5) hx hb hts hw3 hown hK.1 (wk_p1 f0) 0 rfl rfl 2 (by decide) (hts _ (List.mem_of_getElem? (i := 9) rfl)) (fun _ h9 => h9) rfl dX3_init_38 ?_
    refine va_alen (ws := [(o + 61, .inl (y 2, 5, .inr (.inr (.inr (.inr (wk_hr o 5))))))]) (v := 5) hx hb hK.1 (wk_p1 f3) 0 2 rfl rfl rfl dX3_init_41 ?_
    refine lv_icmp_ge (tgt := 64) hx hb dX3_init_42 (by decide) (fun g => ?_) (fun g => ?_)
    · exact kk H locs ls cells slots (by omega) (by omega) (by omega) hf hl hS
    · exact absurd (show (5 : Int32) ≤ nI 5 from Int32.le_refl _) g
  | succ d ih =>
    intro i H locs ls cells slots hd hi hc hsl hz hf hl hS
    have hlt : i < 5 := by omega
    obtain ⟨f0, f1, f2, f3, f4⟩ := id hf
    refine lv_iload_n hx hb dX3_init_36 rfl (lv_at hl 0 rfl) ?_
    refine lv_aload_n hx hb dX3_init_37 rfl (lv_at hl 1 rfl) ?_
    refine va_get (ws := [(o, .inr (3, wk_wb (.ref (o + 1)) (.ref (o + 31)) (.ref (o + 61)) .null))]) (v := .ref (o + 61)) (C := RX3) (T := TX3) (N := 5) hx hb hts hw3 hown hK.1 (wk_p1 f0) 0 rfl rfl 2 (by decide) (hts _ (List.mem_of_getElem? (i := 9) rfl)) (fun _ h9 => h9) rfl dX3_init_38 ?_
    refine va_alen (ws := [(o + 61, .inl (y 2, 5, .inr (.inr (.inr (.inr (wk_hr o i))))))]) (v := 5) hx hb hK.1 (wk_p1 f3) 0 2 rfl rfl rfl dX3_init_41 ?_
    refine lv_icmp_ge (tgt := 64) hx hb dX3_init_42 (by decide) (fun g => ?_) (fun g => ?_)
    · exact absurd ((nI_leI (a := 5) (b := i) (by omega) (by omega)).mp g) (by omega)
    · refine lv_aload_n hx hb dX3_init_45 rfl (lv_at hl 1 rfl) ?_
      refine va_get (ws := [(o, .inr (3, wk_wb (.ref (o + 1)) (.ref (o + 31)) (.ref (o + 61)) .null))]) (v := .ref (o + 61)) (C := RX3) (T := TX3) (N := 5) hx hb hts hw3 hown hK.1 (wk_p1 f0) 0 rfl rfl 2 (by decide) (hts _ (List.mem_of_getElem? (i := 9) rfl)) (fun _ h9 => h9) rfl dX3_init_46 ?_
      refine lv_iload_n hx hb dX3_init_49 rfl (lv_at hl 0 rfl) ?_
      refine wk_newChip (o := o) (h := o + 62 + 30 * i) (rest := [.int (nI i), .ref (o + 61)]) hx hb hml hown hts hK hN hfr hlo (by omega) (by omega) hz (by omega) hl.1 hS dX3_init_50 dX3_init_53 dX3_init_54 (lv_room (Nat.le_of_ble_eq_true rfl)) rfl (fun H1 locs1 z1 e1 o1 hS => ?_)
      have hf := hf.kept (fun q q1 q2 => o1 q (by omega))
      obtain ⟨f0, f1, f2, f3, f4⟩ := hf
      refine wk_qst (t0 := 2) (r := (RX0, TX0, 8)) (A := fun q => o ≤ q) hx hb hK f3 rfl e1.1 hS (by show o ≤ o + 61; omega) rfl (i := nI i) (by rw [nI_clamp (show i < 2147483648 by omega)]; exact fun z => z.elim (s_neg (by omega)) (by omega)) dX3_init_57 (fun H3 locs3 g1 z3 o3 hS => ?_)
      rw [nI_clamp (show i < 2147483648 by omega), wk_hr_s] at g1
      refine lv_iinc (v := nI (i + 1)) (lv' := [(1, .int (nI (i + 1))), (0, .ref o)]) hx hb dX3_init_58 hl (k := 0) rfl (by rw [← s_a1]; rfl) (by decide) rfl (fun ls hl => ?_)
      refine lv_goto (tgt := 36) hx hb dX3_init_61 (by decide) ?_
      refine ih (i + 1) H3 locs3 ls _ _ (by omega) (by omega) (by omega) (by omega) (by rw [z3, z1]; omega) ⟨f0.kept (o3 _ (by dsimp only; omega)), f1.kept (fun q q1 q2 => o3 q (by omega)), f2.kept (fun q q1 q2 => o3 q (by omega)), g1, fun j hj => ?_⟩ hl hS
      by_cases q : j = i
      · subst q
        exact e1.kept (fun q q1 q2 => o3 q (by omega))
      · exact (f4 j (by omega)).kept (fun q q1 q2 => o3 q (by omega))
set_option maxRecDepth 100000 in
set_option maxHeartbeats 4000000 in
/-- a new object of the class: 214 cells after its own -/
theorem m_X3_init (l : Launch) {o : Nat} : Met l yX3_init wsX3_init ({ frames := 3, cells := 214, slots := 1799, locals := 53 }) (va_Pc [.ref o] (fun U => U.heap.size = o + 1 ∧ va_at D vwCl (o, .inr (3, wk_wb .null .null .null .null)) U.heap ∧ wk_K D y U ∧ wk_N3 U)) (va_Qv (fun _ : Unit => True) (fun _ t => t.heap.size = o + 215 ∧ wk_hf D y o 5 (.ref (o + 212)) t.heap ∧ va_at D vwCl (o + 212, .inr (1, wk_ob (.ref (o + 213)) (.ref (o + 214)))) t.heap) (fun q => o ≤ q)) 214 1799 (fun q => o ≤ q) := by
  refine Met.ofW (cc := cX3_init) (maxL := 2) (ret := none) (by decide +kernel) rfl ?_
  intro p e s m args below meth c s₁ Bd hml hv
  obtain ⟨rfl, hsz, h0, hK, hN⟩ := hv
  have hx := Bd.exec
  have hb := Bd.bytes
  have hr := Bd.returns
  have hts := atoms_spec (ws := wsX3_init) Bd.pre
  have hown : s.vm.findClass RX3 = some m.cls := findClass_of_methodNamed Bd.named
  have hlocks := Bd.notSynchronized
  have hin : meth.name = "<init>" := (name_of_methodNamed Bd.named Bd.method).1
  have hS : va_S (fun q => o ≤ q) s.heap s.heap [] := va_S.rf
  have hw3 : ∀ w ∈ u_ws RX3 TX3 5, w ∈ wsX3_init := fun w hw => List.mem_cons_of_mem _ (List.mem_append_left _ (List.mem_append_left _ (List.mem_append_right _ hw)))
  have hl := lv_entry ([.ref o]) (n := 2) (Nat.le_of_ble_eq_true rfl)
  rw [lg_entry_eq]
  generalize (lg_sl ([.ref o]) ++ List.replicate (2 - (lg_sl ([.ref o])).length) Slot.unset).toArray = ls at hl ⊢
  have hl : lv_has ls 2 [(0, .ref o)] := hl
  refine lv_aload_n hx hb dX3_init_0 rfl (lv_at hl 0 rfl) ?_
  refine W.objInit hx hb hown (hts _ (List.mem_of_getElem? (i := 1) rfl)) (hts _ (List.mem_of_getElem? (i := 2) rfl)) (hts _ (List.mem_of_getElem? (i := 3) rfl)) rfl (by rw [hml]; exact hl.1) rfl dX3_init_1 (Nat.le_of_ble_eq_true rfl) (Nat.le_of_ble_eq_true rfl) ?_
  refine W.eq (g2 := F0 m 4 ls []) rfl ?_
  refine lv_aload_n hx hb dX3_init_4 rfl (lv_at hl 0 rfl) ?_
  refine wk_newChip (o := o) (h := o + 1) (rest := [.ref o]) hx hb hml hown hts hK hN (Nat.le_of_ble_eq_true rfl) (Nat.le_of_ble_eq_true rfl) (Nat.le_of_ble_eq_true rfl) (Nat.le_of_ble_eq_true rfl) hsz (by omega) hl.1 hS dX3_init_5 dX3_init_8 dX3_init_9 (lv_room (Nat.le_of_ble_eq_true rfl)) rfl (fun H1 locs1 z1 e1 o1 hS => ?_)
  have h0 := h0.kept (o1 o (by omega))
  refine wk_pfin (own := RX3) (fs' := wk_wb (.ref (o + 1)) .null .null .null) (ty := .object RX0) hx hb hts hw3 tyX3 tyX3_ok nmX3 hown hK h0 hS (Nat.le_refl o) (show vwCl[3]? = some (RX3, TX3, 5) from rfl) 0 (by decide) (hts _ (List.mem_of_getElem? (i := 7) rfl)) rfl hin rfl (by decide +kernel) rfl rfl (show (0 : Nat) < 5 by decide) rfl dX3_init_12 (fun H2 locs2 h0 z2 o2 hS => ?_)
  have e1 := e1.kept (fun q q1 q2 => o2 q (by omega))
  have z2 := z2.trans z1
  refine lv_aload_n hx hb dX3_init_15 rfl (lv_at hl 0 rfl) ?_
  refine wk_newChip (o := o) (h := o + 31) (rest := [.ref o]) hx hb hml hown hts hK hN (Nat.le_of_ble_eq_true rfl) (Nat.le_of_ble_eq_true rfl) (Nat.le_of_ble_eq_true rfl) (Nat.le_of_ble_eq_true rfl) z2 (by omega) hl.1 hS dX3_init_16 dX3_init_19 dX3_init_20 (lv_room (Nat.le_of_ble_eq_true rfl)) rfl (fun H3 locs3 z3 e3 o3 hS => ?_)
  have h0 := h0.kept (o3 o (by omega))
  have e1 := e1.kept (fun q q1 q2 => o3 q (by omega))
  refine wk_pfin (own := RX3) (fs' := wk_wb (.ref (o + 1)) (.ref (o + 31)) .null .null) (ty := .object RX0) hx hb hts hw3 tyX3 tyX3_ok nmX3 hown hK h0 hS (Nat.le_refl o) (show vwCl[3]? = some (RX3, TX3, 5) from rfl) 1 (by decide) (hts _ (List.mem_of_getElem? (i := 8) rfl)) rfl hin rfl (by decide +kernel) rfl rfl (show (1 : Nat) < 5 by decide) rfl dX3_init_23 (fun H4 locs4 h0 z4 o4 hS => ?_)
  have e1 := e1.kept (fun q q1 q2 => o4 q (by omega))
  have e3 := e3.kept (fun q q1 q2 => o4 q (by omega))
  have z4 := z4.trans z3
  refine lv_aload_n hx hb dX3_init_26 rfl (lv_at hl 0 rfl) ?_
  refine lv_iconst (v := 5) hx hb dX3_init_27 (by decide) ?_
  refine wk_nref (C := RX0) (t0 := 2) (cY := y 2) (h := o + 61) (N := 5) hx hb hown (hts _ (List.mem_of_getElem? (i := 4) rfl)) hN.2.2 hK rfl (by decide) (by decide) (by decide) (Nat.le_of_ble_eq_true rfl) (Nat.le_of_ble_eq_true rfl) z4 dX3_init_28 (fun H5 e5 z5 o5 => ?_)
  have h0 := h0.kept (o5 o (by omega))
  have e1 := e1.kept (fun q q1 q2 => o5 q (by omega))
  have e3 := e3.kept (fun q q1 q2 => o5 q (by omega))
  have hS := wk_grow hS z4 z5 o5
  refine wk_pfin (own := RX3) (fs' := wk_wb (.ref (o + 1)) (.ref (o + 31)) (.ref (o + 61)) .null) (ty := .array (.object RX0)) hx hb hts hw3 tyX3 tyX3_ok nmX3 hown hK h0 hS (Nat.le_refl o) (show vwCl[3]? = some (RX3, TX3, 5) from rfl) 2 (by decide) (hts _ (List.mem_of_getElem? (i := 9) rfl)) rfl hin rfl (by decide +kernel) rfl rfl (show (2 : Nat) < 5 by decide) rfl dX3_init_31 (fun H6 locs6 h0 z6 o6 hS => ?_)
  have e1 := e1.kept (fun q q1 q2 => o6 q (by omega))
  have e3 := e3.kept (fun q q1 q2 => o6 q (by omega))
  have e5 := e5.kept (o6 (o + 61) (by omega))
  have z6 := z6.trans z5
  refine lv_iconst (v := 0) hx hb dX3_init_34 (by decide) ?_
  refine lv_istore_n (lv' := [(1, .int 0), (0, .ref o)]) hx hb dX3_init_35 rfl hl (by decide) rfl (fun ls hl => ?_)
  refine w_X3_init_36 (l := l) (o := o) hx hb hml hown hts hK hN (Nat.le_refl _) (Nat.le_refl _) (Nat.le_of_ble_eq_true rfl) (Nat.le_of_ble_eq_true rfl) (fun H locs ls cells slots hc hsl hz hf hl hS => ?_) 5 0 H6 locs6 ls _ _ rfl (by omega) (Nat.le_of_ble_eq_true rfl) (Nat.le_of_ble_eq_true rfl) z6 ⟨h0, e1, e3, by rw [wk_hr_0]; exact e5, fun j hj => absurd hj (by omega)⟩ hl hS
  clear h0 e1 e3 e5
  refine W.widen (k := 211) (n := 1727) hc hsl ?_
  refine lv_aload_n hx hb dX3_init_64 rfl (lv_at hl 1 rfl) ?_
  refine wk_nobj (h := o + 212) (ci := 1) (fs := wk_ob .null .null) (C := RX1) (T := TX1) (N := 9) hx hb hts (fun w hw => List.mem_cons_of_mem _ (List.mem_append_left _ (List.mem_append_right _ hw))) tyX1 tyX1_ok hown (hts _ (List.mem_of_getElem? (i := 10) rfl)) (hts _ (List.mem_of_getElem? (i := 11) rfl)) (hts _ (List.mem_of_getElem? (i := 12) rfl)) hK rfl (fun j hj => by rcases (show j = 0 ∨ j = 1 ∨ j = 2 ∨ j = 3 ∨ j = 4 ∨ j = 5 ∨ j = 6 ∨ j = 7 ∨ j = 8 by omega) with rfl | rfl | rfl | rfl | rfl | rfl | rfl | rfl | rfl <;> rfl) (Nat.le_of_ble_eq_true rfl) (Nat.le_of_ble_eq_true rfl) hz dX3_init_65 (fun H7 e7 z7 o7 => ?_)
  have hf := hf.kept (fun q q1 q2 => o7 q (by omega))
  have hS := wk_grow hS hz z7 o7
  refine lv_dup hx hb dX3_init_68 rfl ?_
  refine va_callv (va_runIN (As := []) (rest := [.ref (o + 212), .ref o]) ⟨hx, hb, hml, hown, hts⟩ (m_X1_init (D := D) (y := y) l (o := o + 212)) ⟨va_cnB 0 hts gX3_init_X1_init_n25 rfl rfl rfl hN.2.1 (hts _ (List.mem_of_getElem? (i := 12) rfl)) (by decide +kernel) ⟨Nat.le_of_ble_eq_true rfl, Nat.le_of_ble_eq_true rfl⟩, rfl, hts _ (List.mem_of_getElem? (i := 32) rfl)⟩ ⟨fun _ _ _ _ q => ⟨q.1, q.2.1, q.2.2.1, wk_K.calling q.2.2.2⟩, fun U hU hW => ⟨rfl, by rw [hU]; exact z7, by rw [hU]; exact e7, hK.moved hW⟩⟩ rfl rfl hl.1 rfl (lv_room (Nat.le_of_ble_eq_true rfl)) dX3_init_69 ⟨Nat.le_of_ble_eq_true rfl, Nat.le_of_ble_eq_true rfl⟩) hS (fun q _ h => by show o ≤ q; have h2 : o + 212 ≤ q := h; omega) (fun q h => by show o ≤ q; have h2 : o + 212 ≤ q := h; omega) (fun u t H8 locs8 ht hvm hw hB hz8 hk8 hS => ?_)
  obtain ⟨b1, b2⟩ := hB
  rw [ht] at b1 b2
  have hf := hf.kept (fun q q1 q2 => hk8 q (by omega) (fun h => by have h2 : o + 212 ≤ q := h; omega))
  obtain ⟨f0, f1, f2, f3, f4⟩ := hf
  refine wk_pfin (own := RX3) (fs' := wk_wb (.ref (o + 1)) (.ref (o + 31)) (.ref (o + 61)) (.ref (o + 212))) (ty := .object RX1) hx hb hts hw3 tyX3 tyX3_ok nmX3 hown hK f0 hS (Nat.le_refl o) (show vwCl[3]? = some (RX3, TX3, 5) from rfl) 4 (by decide) (hts _ (List.mem_of_getElem? (i := 13) rfl)) rfl hin rfl (by decide +kernel) rfl rfl (show (4 : Nat) < 5 by decide) rfl dX3_init_72 (fun H9 locs9 h0 z9 o9 hS => ?_)
  have hfin : wk_hf D y o 5 (.ref (o + 212)) H9 := ⟨h0, f1.kept (fun q q1 q2 => o9 q (by omega)), f2.kept (fun q q1 q2 => o9 q (by omega)), f3.kept (o9 (o + 61) (by omega)), fun j hj => (f4 j hj).kept (fun q q1 q2 => o9 q (by omega))⟩
  have b2 := b2.kept (o9 (o + 212) (by omega))
  exact W.vret hx hb hr (fun t ht hW => ⟨⟨(), rfl, trivial, by rw [ht]; exact z9.trans b1, by rw [ht]; exact hfin, by rw [ht]; exact b2⟩, hS.F ht⟩) hS.2.2 dX3_init_75
end WP53
