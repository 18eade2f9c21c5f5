section WP51
variable {p : Program} {l : Launch} {e : Env} {R : Room} {s : State} {m : MethodId} {args : Array Value} {below : List Frame} {meth : Method} {c : Code} {H : Heap} {locs : List Loc} {cells slots : Nat} {Q : State → Prop}
variable {cc : ByteArray} {pc : Nat} {ls : Array Slot} {rest : List Value} {D : va_G} {y : Nat → ClassId} {A : Nat → Prop} {H0 : Heap}
theorem wk_p1 {q : Nat × va_E} (h : va_at D vwCl q H) : va_P D vwCl [q] H := by
  intro j x hq
  have hj : j < 1 := (List.getElem?_eq_some_iff.mp hq).1
  rw [show j = 0 by omega] at hq
  cases hq
  exact h
theorem wk_ist (hexec : p.tables.exec = Jvm.exec) (hb : c.code = cc) (hK : wk_K D y s) {a n : Nat} {f : Nat → Int32} (h0 : va_at D vwCl (a, .inl (y 0, n, .inl f)) H) (hS : va_S A H0 H locs) (hA : A a) {i x : Int32} {j : Nat} (hin : ¬ (i < 0 ∨ n ≤ i.toNatClampNeg)) (hj : i.toNatClampNeg = j) (hdg : decode cc pc = .ok (.iastore, 1))
    (kk : ∀ (H1 : Heap) (locs1 : List Loc), va_at D vwCl (a, .inl (y 0, n, .inl (upd f j x))) H1 → H1.size = H.size → (∀ q : Nat, q ≠ a → H1[q]? = H[q]?) → va_S A H0 H1 locs1 → W p l e R s m args below meth c H1 locs1 cells slots Q (F0 m (pc + 1) ls rest)) : W p l e R s m args below meth c H locs cells slots Q (F0 m pc ls (.int x :: .int i :: .ref a :: rest)) := by
  subst hj
  refine W.iast hexec hb h0 ((hK.1.2 0 _ rfl).1 n (fun j => .int (f j))) (fun q => by cases q) (by show ¬ (i < 0 ∨ (arrV _ _ _).slots.size ≤ _); rw [arrV_size]; exact hin) rfl rfl hdg fun H1 e z oq => ?_
  refine kk H1 _ ?_ z oq (hS.put z oq hA)
  show H1[a]? = some (vp_cell _ _)
  rw [e]
  rw [vp_cell_i, vp_cell_i, arrV_store]
  congr 2
  funext q
  by_cases hq : q = i.toNatClampNeg
  · subst hq
    simp [updV, upd]
  · simp [updV, upd, hq]
abbrev wk_ob (a b : Value) : List Value := [a, .int 0, .int 0, .int 0, b, .int 0, .int 0, .int 0, .int 0]
set_option maxRecDepth 100000 in
set_option maxHeartbeats 4000000 in
theorem m_X1_init (l : Launch) {o : Nat} : Met l yX1_init wsX1_init ({ frames := 1, cells := 2, slots := 63, locals := 12 }) (va_Pc [.ref o] (fun U => U.heap.size = o + 1 ∧ va_at D vwCl (o, .inr (1, wk_ob .null .null)) U.heap ∧ wk_K D y U)) (va_Qv (fun _ : Unit => True) (fun _ t => t.heap.size = o + 3 ∧ va_at D vwCl (o, .inr (1, wk_ob (.ref (o + 1)) (.ref (o + 2)))) t.heap) (fun q => o ≤ q)) 2 63 (fun q => o ≤ q) := by
  refine Met.ofW (cc := cX1_init) (maxL := 1) (ret := none) (by decide +kernel) rfl ?_
  intro p e s m args below meth c s₁ Bd hml hv
  obtain ⟨rfl, hsz, h0, hK⟩ := hv
  have hx := Bd.exec
  have hb := Bd.bytes
  have hr := Bd.returns
  have hts := atoms_spec (ws := wsX1_init) Bd.pre
  have hown : s.vm.findClass RX1 = some m.cls := findClass_of_methodNamed Bd.named
  have hlocks := Bd.notSynchronized
  have hin : meth.name = "<init>" := (name_of_methodNamed Bd.named Bd.method).1
  have hS : va_S (fun q => o ≤ q) s.heap s.heap [] := va_S.rf
  have hl := lv_entry ([.ref o]) (n := 1) (Nat.le_of_ble_eq_true rfl)
  rw [lg_entry_eq]
  generalize (lg_sl ([.ref o]) ++ List.replicate (1 - (lg_sl ([.ref o])).length) Slot.unset).toArray = ls at hl ⊢
  have hl : lv_has ls 1 [(0, .ref o)] := hl
  refine lv_aload_n hx hb dX1_init_0 rfl (lv_at hl 0 rfl) ?_
  refine W.objInit hx hb hown (hts _ (List.mem_of_getElem? (i := 1) rfl)) (hts _ (List.mem_of_getElem? (i := 2) rfl)) (hts _ (List.mem_of_getElem? (i := 3) rfl)) rfl (by rw [hml]; exact hl.1) rfl dX1_init_1 (Nat.le_of_ble_eq_true rfl) (Nat.le_of_ble_eq_true rfl) ?_
  refine W.eq (g2 := F0 m 4 ls []) rfl ?_
  refine lv_aload_n hx hb dX1_init_4 rfl (lv_at hl 0 rfl) ?_
  refine lv_bipush (v := 60) hx hb dX1_init_5 (by decide) ?_
  refine va_newaK (N := 60) (h := o + 1) hx hb (atype := .char) (hts _ (List.mem_of_getElem? (i := 4) rfl)) rfl dX1_init_7 rfl (by decide) (by decide) (by decide) (Nat.le_of_ble_eq_true rfl) (Nat.le_of_ble_eq_true rfl) hsz (fun H1 cA e1 z1 o1 hAr hNm => ?_)
  have h0 := h0.kept (o1 o (by omega))
  have hS := wk_grow hS hsz z1 o1
  refine wk_pfin (own := RX1) (fs' := wk_ob (.ref (o + 1)) .null) (ty := .array .char) hx hb hts (fun w hw => List.mem_cons_of_mem _ (List.mem_append_right _ hw)) tyX1 tyX1_ok nmX1 hown hK h0 hS (Nat.le_refl o) (show vwCl[1]? = some (RX1, TX1, 9) from rfl) 0 (by decide) (hts _ (List.mem_of_getElem? (i := 5) rfl)) rfl hin rfl (by decide +kernel) rfl rfl (show (0 : Nat) < 9 by decide) rfl dX1_init_9 (fun H2 locs2 h0 z2 o2 hS => ?_)
  refine lv_aload_n hx hb dX1_init_12 rfl (lv_at hl 0 rfl) ?_
  refine lv_iconst (v := 3) hx hb dX1_init_13 (by decide) ?_
  refine wk_nint (h := o + 2) (N := 3) hx hb (hts _ (List.mem_of_getElem? (i := 6) rfl)) hK (by decide) (by decide) (by decide) (Nat.le_of_ble_eq_true rfl) (Nat.le_of_ble_eq_true rfl) (z2.trans z1) dX1_init_14 (fun H3 e3 z3 o3 => ?_)
  have h0 := h0.kept (o3 o (by omega))
  have hS := wk_grow hS (z2.trans z1) z3 o3
  refine wk_pfin (own := RX1) (fs' := wk_ob (.ref (o + 1)) (.ref (o + 2))) (ty := .array .int) hx hb hts (fun w hw => List.mem_cons_of_mem _ (List.mem_append_right _ hw)) tyX1 tyX1_ok nmX1 hown hK h0 hS (Nat.le_refl o) (show vwCl[1]? = some (RX1, TX1, 9) from rfl) 4 (by decide) (hts _ (List.mem_of_getElem? (i := 7) rfl)) rfl hin rfl (by decide +kernel) rfl rfl (show (4 : Nat) < 9 by decide) rfl dX1_init_16 (fun H4 locs4 h0 z4 o4 hS => ?_)
  exact W.vret hx hb hr (fun t ht hW => ⟨⟨(), rfl, trivial, by rw [ht]; exact z4.trans z3, by rw [ht]; exact h0⟩, hS.F ht⟩) hS.2.2 dX1_init_19
end WP51
