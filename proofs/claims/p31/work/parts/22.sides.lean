/-! the script's cell, the law's isSo with its new row, what the law's own walk keeps fixed -/
def f_cell (xs : Nat → Int32) (Lx : Nat) (k : Int32) : Int32 := if nI Lx ≤ k then 40503 * (k + 3) else xs k.toNatClampNeg
section WP22
variable {p : Program} {l : Launch} {e : Env} {R : Room} {s : State} {m : MethodId} {args : Array Value} {below : List Frame} {meth : Method} {c : Code} {H : Heap} {locs : List Loc} {cells slots : Nat} {Q : State → Prop}
variable {D : va_G} {y : Nat → ClassId} {B : Nat → Nat → Nat → Nat} {Lk : Nat → Nat → Nat → Prop} {A : Nat → Prop} {M MM : wk_T}
theorem wk_blindX {av : List Value} {bb Lx : Nat} {xs : Nat → Int32} : FrameBlind (va_Pc av (fun U => va_X bb Lx xs U U.heap)) := fun _ U _ _ q => ⟨q.1, va_X.moved (u := U) (Vm.Alike.refl U.vm) q.2⟩
set_option maxRecDepth 100000 in
set_option maxHeartbeats 4000000 in
theorem m_L_cell (l : Launch) {bb Lx : Nat} {xs : Nat → Int32} {k : Int32} (hk : ¬ k < 0) (hLx : Lx < 2 ^ 31) : Met l yL_cell wsL_cell ({ frames := 0, cells := 0, slots := 0, locals := 0 }) (va_Pc [.ref bb, .int k] (fun U => va_X bb Lx xs U U.heap)) (va_Qi (fun (r : Int32) (_ : Unit) => r = f_cell xs Lx k) (fun _ _ => True) (fun _ => False)) 0 0 (fun _ => False) := by
  refine Met.ofW (cc := cL_cell) (maxL := 2) (ret := some .int) (by decide +kernel) rfl ?_
  intro p e s m args below meth c s₁ Bd hml hv
  obtain ⟨rfl, hX⟩ := hv
  have hx := Bd.exec
  have hb := Bd.bytes
  have hr := Bd.returns
  have hts := atoms_spec (ws := wsL_cell) Bd.pre
  have hown : s.vm.findClass RL = some m.cls := findClass_of_methodNamed Bd.named
  have hlocks := Bd.notSynchronized
  have hS : va_S (fun _ => False) s.heap s.heap [] := va_S.rf
  have hbl : bb < s.heap.size := by obtain ⟨scr, h1, -⟩ := hX; exact (Array.getElem?_eq_some_iff.mp h1).1
  have hl := lv_entry ([.ref bb, .int k]) (n := 2) (Nat.le_of_ble_eq_true rfl)
  rw [lg_entry_eq]
  generalize (lg_sl ([.ref bb, .int k]) ++ List.replicate (2 - (lg_sl ([.ref bb, .int k])).length) Slot.unset).toArray = ls at hl ⊢
  have hl : lv_has ls 2 [(0, .ref bb), (1, .int k)] := hl
  have hlen : ¬ (fun _ : Nat => False) bb := fun h => h
  refine lv_iload_n hx hb dL_cell_0 rfl (lv_at hl 1 rfl) ?_
  refine lv_aload_n hx hb dL_cell_1 rfl (lv_at hl 0 rfl) ?_
  refine va_slen hx hb hX hbl hlen hS dL_cell_2 ?_
  refine lv_icmp_ge (tgt := 12) hx hb dL_cell_3 (by decide) (fun g1 => ?_) (fun g1 => ?_)
  · refine lv_ldc (v := 40503) hx hb hown (hts _ (List.mem_of_getElem? (i := 1) rfl)) dL_cell_12 ?_
    refine lv_iload_n hx hb dL_cell_14 rfl (lv_at hl 1 rfl) ?_
    refine lv_iconst (v := 3) hx hb dL_cell_15 (by decide) ?_
    refine lv_iadd hx hb dL_cell_16 ?_
    refine lv_imul hx hb dL_cell_17 ?_
    exact W.iret hx hb hr (fun t ht hW => ⟨⟨_, (), rfl, (by unfold f_cell; rw [if_pos (show nI Lx ≤ k from g1)]), trivial⟩, hS.F ht⟩) hS.2.2 dL_cell_18
  · have hin : vp_in k Lx := by
      intro h
      rcases h with h | h
      · exact hk h
      · apply g1
        obtain ⟨j, hj, rfl⟩ := nI_of hk
        rw [nI_clamp hj] at h
        exact nI_le h hj
    refine lv_aload_n hx hb dL_cell_6 rfl (lv_at hl 0 rfl) ?_
    refine lv_iload_n hx hb dL_cell_7 rfl (lv_at hl 1 rfl) ?_
    refine va_sld hx hb hX hbl hlen hS hin dL_cell_8 ?_
    refine lv_goto (tgt := 18) hx hb dL_cell_9 (by decide) ?_
    exact W.iret hx hb hr (fun t ht hW => ⟨⟨_, (), rfl, (by unfold f_cell; rw [if_neg (show ¬ nI Lx ≤ k from g1)]), trivial⟩, hS.F ht⟩) hS.2.2 dL_cell_18
def wk_bu (B : Nat → Nat → Nat → Nat) (q : Nat) : Nat → Nat → Nat → Nat := fun k c i => if k = 19 then q else B k c i
theorem wk_cel_bu {r : Nat → Int32} {q k c i : Nat} : wk_cel y (wk_bu B q) r k c i = wk_cel y B r k c i := by
  unfold wk_cel
  split <;> first | rfl | simp [wk_bu]
theorem wk_bu_n {q k c i : Nat} (h : k ≠ 19) : wk_bu B q k c i = B k c i := if_neg h
def f_L_isSoA (M : wk_T) : Option (Int32 × wk_T) := f_L_isSo (wk_ur M 19 0 0 (fun _ => 0))
set_option maxRecDepth 100000 in
set_option maxHeartbeats 4000000 in
theorem m_L_isSo (l : Launch) {sz : Nat} (hI : wk_I B Lk) (hL : wk_L Lk) (h19n : ∀ c i, ¬ Lk 19 c i) {r0 : Int32} (hf : f_L_isSoA M = some (r0, MM)) : Met l yL_isSo wsL_isSo ({ frames := 4, cells := 1, slots := 4, locals := 102 }) (va_Pc [.ref (B 9 0 0), .ref (B 14 0 0), .ref (B 15 0 0), .ref (B 16 0 0), .ref (B 17 0 0), .ref (B 18 0 0)] (fun U => U.heap.size = sz ∧ wk_W D y B Lk M U)) (va_Qi (fun (r : Int32) (u : wk_T) => r = r0 ∧ u = MM) (fun u t => wk_W D y B Lk u t) (fun q => wk_A B Lk q ∨ sz ≤ q)) 1 4 (fun q => wk_A B Lk q ∨ sz ≤ q) := by
  refine Met.ofW (cc := cL_isSo) (maxL := 14) (ret := some .boolean) (by decide +kernel) rfl ?_
  intro p e s m args below meth c s₁ Bd hml hv
  obtain ⟨rfl, hsz, hH, hK⟩ := hv
  subst hsz
  have hx := Bd.exec
  have hb := Bd.bytes
  have hr := Bd.returns
  have hts := atoms_spec (ws := wsL_isSo) Bd.pre
  have hown : s.vm.findClass RL = some m.cls := findClass_of_methodNamed Bd.named
  have hlocks := Bd.notSynchronized
  have hl := lv_entry ([.ref (B 9 0 0), .ref (B 14 0 0), .ref (B 15 0 0), .ref (B 16 0 0), .ref (B 17 0 0), .ref (B 18 0 0)]) (n := 14) (Nat.le_of_ble_eq_true rfl)
  rw [lg_entry_eq]
  generalize (lg_sl ([.ref (B 9 0 0), .ref (B 14 0 0), .ref (B 15 0 0), .ref (B 16 0 0), .ref (B 17 0 0), .ref (B 18 0 0)]) ++ List.replicate (14 - (lg_sl ([.ref (B 9 0 0), .ref (B 14 0 0), .ref (B 15 0 0), .ref (B 16 0 0), .ref (B 17 0 0), .ref (B 18 0 0)])).length) Slot.unset).toArray = ls at hl ⊢
  have hl : lv_has ls 14 [(0, .ref (B 9 0 0)), (1, .ref (B 14 0 0)), (2, .ref (B 15 0 0)), (3, .ref (B 16 0 0)), (4, .ref (B 17 0 0)), (5, .ref (B 18 0 0))] := hl
  refine lv_iconst (v := 4) hx hb dL_isSo_0 (by decide) ?_
  refine va_newaK (N := 4) hx hb (hts _ (List.mem_of_getElem? (i := 1) rfl)) rfl dL_isSo_1 rfl (by decide) (by decide) (by decide) (Nat.le_of_ble_eq_true rfl) (Nat.le_of_ble_eq_true rfl) rfl (fun H' cA e1 z1 o1 hAr hNm => ?_)
  have hcA : cA = y 0 := by
    have h2 : s.vm.findClass ("[" ++ (FieldType.int).toString) = some (y 0) := (hK.1.2 0 _ rfl).2
    exact Option.some.inj (hNm.symm.trans h2)
  subst hcA
  refine lv_astore (lv' := [(6, .ref s.heap.size), (0, .ref (B 9 0 0)), (1, .ref (B 14 0 0)), (2, .ref (B 15 0 0)), (3, .ref (B 16 0 0)), (4, .ref (B 17 0 0)), (5, .ref (B 18 0 0))]) hx hb dL_isSo_3 hl (by decide) rfl (fun ls hl => ?_)
  have hlt : ∀ k c i, Lk k c i → B k c i < s.heap.size := fun k c i h => (hH k c i h).lt
  have n19 : ∀ k c i, Lk k c i → k ≠ 19 := fun k c i h z => h19n c i (by rw [← z]; exact h)
  have hP : wk_H D y (wk_bu B s.heap.size) (fun k c i => Lk k c i ∨ (k = 19 ∧ c = 0 ∧ i = 0)) (wk_ur M 19 0 0 (fun _ => 0)) H' := by
    intro k c i h
    rcases h with h | ⟨rfl, rfl, rfl⟩
    · rw [wk_cel_bu, wk_bu_n (n19 k c i h), wk_ur_n (fun z => n19 k c i h z.1)]
      exact (hH k c i h).kept (o1 _ (hlt k c i h))
    · rw [wk_cel_bu, wk_ur_s]
      exact e1
  have hI' : wk_I (wk_bu B s.heap.size) (fun k c i => Lk k c i ∨ (k = 19 ∧ c = 0 ∧ i = 0)) := by
    intro k c i k' c' i' h h' hz
    rcases h with h | ⟨rfl, rfl, rfl⟩ <;> rcases h' with h' | ⟨rfl, rfl, rfl⟩
    · rw [wk_bu_n (n19 _ _ _ h), wk_bu_n (n19 _ _ _ h')] at hz
      exact hI _ _ _ _ _ _ h h' hz
    · rw [wk_bu_n (n19 _ _ _ h)] at hz
      exact absurd hz (Nat.ne_of_lt (hlt _ _ _ h))
    · rw [wk_bu_n (n19 _ _ _ h')] at hz
      exact absurd hz.symm (Nat.ne_of_lt (hlt _ _ _ h'))
    · exact ⟨rfl, rfl, rfl⟩
  have hL' : wk_L (fun k c i => Lk k c i ∨ (k = 19 ∧ c = 0 ∧ i = 0)) := ⟨fun k c h1 h2 => Or.inl (hL.1 k c h1 h2), fun k c i h1 h2 h3 h4 => Or.inl (hL.2.1 k c i h1 h2 h3 h4), fun k h1 h2 => Or.inl (hL.2.2.1 k h1 h2), fun k h1 h2 => Or.inl (hL.2.2.2 k h1 h2)⟩
  have hA' : ∀ q, wk_A (wk_bu B s.heap.size) (fun k c i => Lk k c i ∨ (k = 19 ∧ c = 0 ∧ i = 0)) q → (wk_A B Lk q ∨ s.heap.size ≤ q) := by
    intro q h
    obtain ⟨k, c, i, h | ⟨rfl, rfl, rfl⟩, rfl⟩ := h
    · rw [wk_bu_n (n19 _ _ _ h)]
      exact Or.inl ⟨k, c, i, h, rfl⟩
    · exact Or.inr (Nat.le_refl _)
  have hS : va_S (fun q => wk_A B Lk q ∨ s.heap.size ≤ q) s.heap H' [] := ⟨by omega, fun q h1 _ => o1 q h1, fun _ h => by cases h⟩
  refine w_L_isSo_5 (A := fun q => wk_A B Lk q ∨ s.heap.size ≤ q) (B := wk_bu B s.heap.size) (r0 := r0) (MM := MM) ⟨⟨hx, hb, hml, hown, hts⟩, hK, hI', hL', hA', Nat.le_refl _, Nat.le_refl _, Nat.le_refl _, Nat.le_refl _⟩ (fun v M' H1 locs pc ls hz hv hP1 hS1 hd => ?_) (Or.inr ⟨rfl, rfl, rfl⟩) hf (lv_sub hl [1, 2, 3, 4, 5, 6, 0] rfl) hP hS
  obtain ⟨rfl, rfl⟩ : v = r0 ∧ M' = MM := by cases hv; exact ⟨rfl, rfl⟩
  have hPb : wk_H D y B Lk M' H1 := by
    intro k c i h
    have h1 := hP1 k c i (Or.inl h)
    rw [wk_cel_bu, wk_bu_n (n19 _ _ _ h)] at h1
    exact h1
  exact W.zret hx hb hr (by rcases hz with rfl | rfl <;> rfl) (fun t ht hW => ⟨⟨_, _, rfl, ⟨rfl, rfl⟩, by rw [ht]; exact hPb, hK.moved hW⟩, hS1.F ht⟩) hS1.2.2 hd
/-- what stays fixed in the law's walk -/
def wk_XL (p : Program) (l : Launch) (e : Env) (s : State) (m : MethodId) (bb : Nat) (below : List Frame) (meth : Method) (c : Code) (Q : State → Prop) (Lx : Nat) (xs : Nat → Int32) (D : va_G) (y : Nat → ClassId) (B : Nat → Nat → Nat → Nat) (Lk : Nat → Nat → Nat → Prop) : Prop :=
  (p.tables.exec = Jvm.exec ∧ c.code = cL_law ∧ c.maxLocals = 10 ∧ s.vm.findClass RL = some m.cls ∧ ∀ w ∈ wsL_law, w.before #[Value.ref bb] s = true) ∧ wk_K D y s ∧ wk_I B Lk ∧ wk_L Lk ∧ (∀ c i, ¬ Lk 19 c i) ∧ (∀ q, wk_A B Lk q → s.heap.size ≤ q) ∧ 7 ≤ room_1.frames ∧ 200 ≤ room_1.locals ∧ (va_X bb Lx xs s s.heap ∧ Lx < 2 ^ 31) ∧ bb < s.heap.size ∧ ¬ (s.heap.size ≤ bb)
def wk_RL (p : Program) (l : Launch) (e : Env) (s : State) (m : MethodId) (bb : Nat) (below : List Frame) (meth : Method) (c : Code) (Q : State → Prop) (D : va_G) (y : Nat → ClassId) (B : Nat → Nat → Nat → Nat) (Lk : Nat → Nat → Nat → Prop) (r0 : Int32) (MM : wk_T) : Prop :=
  ∀ (v : Int32) (M : wk_T) (H : Heap) (locs : List Loc) (pc : Nat) (ls : Array Slot) (cells slots : Nat), cells ≤ room_1.cells → slots ≤ room_1.slots → some (v, M) = some (r0, MM) → wk_H D y B Lk M H → va_S (fun q => s.heap.size ≤ q) s.heap H locs → decode cL_law pc = .ok (.ireturn, 1) → W p l e room_1 s m #[Value.ref bb] below meth c H locs cells slots Q (F0 m pc ls [.int v])
variable {pc index : Nat} {ls : Array Slot} {rest : List Value} {cc : ByteArray} {nL : Nat} {Ts : List Cond} {own : String}
theorem wk_cCell {bb Lx : Nat} {xs : Nat → Int32} {k r : Int32} {maxL : Nat} {ret : Option FieldType} {bytes : ByteArray} (S : CallFix p m c cc nL s args Ts own) (cw : CallB R s args own index yL_cell bytes maxL ret wsL_cell ({ frames := 0, cells := 0, slots := 0, locals := 0 }) 0 0 2 ∧ (Cond.static yL_cell).before args s = true) (hX : va_X bb Lx xs s s.heap ∧ Lx < 2 ^ 31) (hbl : bb < s.heap.size) (hbA : ¬ (s.heap.size ≤ bb)) (hP : wk_H D y B Lk M H) (hS : va_S (fun q => s.heap.size ≤ q) s.heap H locs) (hk : ¬ k < 0) (hr : f_cell xs Lx k = r) (hsize : ls.size = nL) (hW : 2 * (F0 m pc ls rest).monitorRoom + (rest.map fun v => v.category).sum ≤ 8) (hcs : cells + 0 ≤ R.cells ∧ slots + 0 ≤ R.slots) (hdg : decode cc pc = .ok (.invokestatic index, 3))
    (kk : ∀ (H1 : Heap) (locs1 : List Loc), wk_H D y B Lk M H1 → va_S (fun q => s.heap.size ≤ q) s.heap H1 locs1 → W p l e R s m args below meth c H1 locs1 cells slots Q (F0 m (pc + 3) ls (.int r :: rest))) : W p l e R s m args below meth c H locs cells slots Q (F0 m pc ls (.int k :: .ref bb :: rest)) := by
  have hb9 : H[bb]? = s.heap[bb]? := hS.2.1 bb hbl hbA
  refine va_calli (va_runS (As := [.ref bb, .int k]) (rest := rest) S (m_L_cell l hk hX.2) cw ⟨wk_blindX, fun U hU hW => ⟨rfl, by show va_X bb Lx xs U U.heap; rw [hU]; exact (hX.1.moved hW.alike).kept hb9⟩⟩ rfl rfl hsize rfl hW hdg hcs) hS (fun q _ h => h.elim) (fun q h => h.elim) (fun r' u t H1 locs1 ht hvm hw hB hz hk1 hS => ?_)
  subst hw
  rw [hr]
  exact kk H1 locs1 (hP.kept (fun k c i h => hk1 _ ((hP k c i h).lt) (fun z => z))) hS
theorem wk_blindZ {av : List Value} {sz : Nat} : FrameBlind (va_Pc av (fun U => U.heap.size = sz ∧ wk_W D y B Lk M U)) := fun _ _ _ _ q => ⟨q.1, q.2.1, q.2.2.1, wk_K.calling q.2.2.2⟩
theorem wk_cIsSo {r0 : Int32} {maxL : Nat} {ret : Option FieldType} {bytes : ByteArray} (S : CallFix p m c cc nL s args Ts own) (hM : Met l yL_isSo wsL_isSo ({ frames := 4, cells := 1, slots := 4, locals := 102 }) (va_Pc [.ref (B 9 0 0), .ref (B 14 0 0), .ref (B 15 0 0), .ref (B 16 0 0), .ref (B 17 0 0), .ref (B 18 0 0)] (fun U => U.heap.size = H.size ∧ wk_W D y B Lk M U)) (va_Qi (fun (r : Int32) (u : wk_T) => r = r0 ∧ u = MM) (fun u t => wk_W D y B Lk u t) (fun q => wk_A B Lk q ∨ H.size ≤ q)) 1 4 (fun q => wk_A B Lk q ∨ H.size ≤ q)) (cw : CallB R s args own index yL_isSo bytes maxL ret wsL_isSo ({ frames := 4, cells := 1, slots := 4, locals := 102 }) 1 4 6 ∧ (Cond.static yL_isSo).before args s = true) (hK : wk_K D y s) (hP : wk_H D y B Lk M H) (hS : va_S (fun q => s.heap.size ≤ q) s.heap H locs) (hA : ∀ q, wk_A B Lk q → s.heap.size ≤ q) (hsize : ls.size = nL) (hW : 2 * (F0 m pc ls rest).monitorRoom + (rest.map fun v => v.category).sum ≤ 8) (hcs : cells + 1 ≤ R.cells ∧ slots + 4 ≤ R.slots) (hdg : decode cc pc = .ok (.invokestatic index, 3))
    (kk : ∀ (H1 : Heap) (locs1 : List Loc), wk_H D y B Lk MM H1 → va_S (fun q => s.heap.size ≤ q) s.heap H1 locs1 → W p l e R s m args below meth c H1 locs1 (cells + 1) (slots + 4) Q (F0 m (pc + 3) ls (.int r0 :: rest))) : W p l e R s m args below meth c H locs cells slots Q (F0 m pc ls (.ref (B 18 0 0) :: .ref (B 17 0 0) :: .ref (B 16 0 0) :: .ref (B 15 0 0) :: .ref (B 14 0 0) :: .ref (B 9 0 0) :: rest)) := by
  have hA2 : ∀ q, (wk_A B Lk q ∨ H.size ≤ q) → s.heap.size ≤ q := fun q h => h.elim (hA q) (fun h => Nat.le_trans hS.1 h)
  refine va_calli (va_runS (As := [.ref (B 9 0 0), .ref (B 14 0 0), .ref (B 15 0 0), .ref (B 16 0 0), .ref (B 17 0 0), .ref (B 18 0 0)]) (rest := rest) S hM cw ⟨wk_blindZ, fun U hU hW => ⟨rfl, by rw [hU], by rw [hU]; exact hP, hK.moved hW⟩⟩ rfl rfl hsize rfl hW hdg hcs) hS (fun q _ h => hA2 q h) (fun q h => hA2 q h) (fun r u t H1 locs1 ht hvm hw hB hz hk hS => ?_)
  obtain ⟨rfl, rfl⟩ := hw
  exact kk H1 locs1 (by rw [← ht]; exact hB.1) hS
end WP22
