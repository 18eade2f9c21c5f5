/-! THE CLAIM OUT OF ONE WALK OF THE LAW'S BODY. Your part is whole_start (and what it stands on); all else here is the same for every law, but numbers. -/
def R_law : String := "WokenRoomsLaw"
def lw_P (b : Addr) (xs : List Int32) (args : Array Value) (s : State) : Prop := args = #[.ref b] ∧ s.IntsAt b xs ∧ xs.length ≤ 260 ∧ (Jvm.Cond.and given_1 narrow_1).before args s = true
def lw_Q (_ : Array Value) (s : State) (o : Outcome) (t : State) : Prop := o = .returned (some (.int 1)) ∧ Framed s o t [] room_1.cells room_1.slots
def lw_Z (below : List Frame) (a : Array Value) (s : State) : State → Prop := fun t => ∃ o, t.status = .running ∧ Ended t below o ∧ lw_Q a s o t
/-- the law's own end, with 1 on the stack, nothing written that was there before, its room as the claim has it -/
theorem lw_ret {p : Program} {l : Launch} {e : Env} {s : State} {m : MethodId} {below : List Frame} {meth : Method} {c : Code} {b : Nat} (hx : p.tables.exec = Jvm.exec) (hb : c.code = code) (hr : meth.sig.returnType = ret) (hlocks : meth.locks = false) {pc : Nat} {H : Heap} {ls : Array Slot} (hdg : decode code pc = .ok (.ireturn, 1)) : W p l e room_1 s m #[Value.ref b] below meth c H [] room_1.cells room_1.slots (lw_Z below #[Value.ref b] s) (F0 m pc ls [.int 1]) := by
  intro T hT X
  obtain ⟨fs, hret, hrun, hended, hW, hframe⟩ := X.leave (v := some (.int 1)) (hlocks := hlocks) (fun h => by rw [hr] at h; cases h)
  have hmeth' : T.vm.method? m = some meth := X.method'
  refine ⟨T.setFrames fs, ?_, .returned (some (.int 1)), hrun, hended, rfl, ⟨_, rfl⟩, hW, hframe⟩
  jvm_step X.here [X.here.top, hx, hb, hdg, hmeth', hr, ret, narrow_b1]
  (try refine ⟨rfl, ?_⟩); (try refine ⟨rfl, ?_⟩)
  first | (intro acts; rw [hret _ acts rfl rfl rfl]) | rw [hret _ _ rfl rfl rfl]
  exact Steps.refl _
/-- what holds at the law's entry: the machine, the code, the tables' words (any of lw_tbl by 'hts w (by decide +kernel)'), the script of L ints xs at the cell b, what the Statement gives of the start (any of its parts by flat_of_before) -/
def lw_At (p : Program) (s : State) (m : MethodId) (meth : Method) (c : Code) (b L : Nat) (xs : Nat → Int32) : Prop :=
  p.tables.exec = Jvm.exec ∧ c.code = code ∧ meth.sig.returnType = ret ∧ c.maxLocals = 10 ∧ s.vm.findClass R_law = some m.cls ∧ (∀ w ∈ lw_tbl, w.before #[Value.ref b] s = true) ∧ va_X b L xs s s.heap ∧ b < s.heap.size ∧ meth.locks = false ∧ (Jvm.Cond.and given_1 narrow_1).before #[Value.ref b] s = true
-- ===== YOUR PART BEGINS =====
/-- what the tables give -/
theorem wk_tabK {s : State} {b : Nat} (hts : ∀ w ∈ lw_tbl, w.before #[Value.ref b] s = true) : ∃ (D : va_G) (y : Nat → ClassId), wk_K D y s ∧ wk_N3 s := by
  obtain ⟨c0, iS0, hKn0⟩ := u_known (C := RX0) (T := TX0) (N := 8) (n := 8) hts inX0 (hts _ (wk_m1 15 rfl))
  obtain ⟨c1, iS1, hKn1⟩ := u_known (C := RX1) (T := TX1) (N := 9) (n := 9) hts inX1 (hts _ (wk_m1 119 rfl))
  obtain ⟨c2, iS2, hKn2⟩ := u_known (C := RX2) (T := TX2) (N := 15) (n := 15) hts inX2 (hts _ (wk_m1 22 rfl))
  obtain ⟨c3, iS3, hKn3⟩ := u_known (C := RX3) (T := TX3) (N := 5) (n := 5) hts inX3 (hts _ (wk_m1 7 rfl))
  obtain ⟨dC, dI, hKc⟩ : ∃ (dC : Nat → ClassId) (dI : Nat → Nat → Nat), ∀ (k : Nat) (q : vw_C), vwCl[k]? = some q → u_Kn s q.1 q.2.1 q.2.2 (dC k) (dI k) := by
    refine ⟨fun k => if k = 0 then c0 else if k = 1 then c1 else if k = 2 then c2 else c3, fun k => if k = 0 then iS0 else if k = 1 then iS1 else if k = 2 then iS2 else iS3, ?_⟩
    intro k q hq
    match k, hq with
    | 0, hq => cases hq; exact hKn0
    | 1, hq => cases hq; exact hKn1
    | 2, hq => cases hq; exact hKn2
    | 3, hq => cases hq; exact hKn3
    | k + 4, hq => cases hq
  have hi : (Cond.arrayClass .int).before #[Value.ref b] s = true := hts _ (wk_m1 85 rfl)
  have hr : (Cond.arrayOver (.object "WokenRooms$Room")).before #[Value.ref b] s = true := hts _ (wk_m1 21 rfl)
  have hq : (Cond.arrayOver (.object "WokenRooms$Chip")).before #[Value.ref b] s = true := hts _ (wk_m1 117 rfl)
  obtain ⟨y0, k0, p0, a1_, a2_, a3_⟩ := Cond.arrayClass_spec hi
  obtain ⟨p1, y1, k1, b1_, b2_, b3_, b4_, b5_⟩ := Cond.arrayOver_spec hr
  obtain ⟨p2, y2, k2, d1_, d2_, d3_, d4_, d5_⟩ := Cond.arrayOver_spec hq
  refine ⟨(dC, dI), fun k => if k = 0 then y0 else if k = 1 then y1 else y2, ⟨⟨hKc, fun k q hk => ?_⟩, va_Nw.of rfl (A := #[Value.ref b]) (hts _ (wk_m2 51 rfl))⟩, ⟨va_Nw.of rfl (A := #[Value.ref b]) (hts _ (wk_m1 23 rfl)), va_AO.of hr⟩, va_Nw.of rfl (A := #[Value.ref b]) (hts _ (wk_m1 120 rfl)), va_AO.of hq⟩
  match k, hk with
  | 0, hk =>
    cases hk
    exact ⟨fun n z => ⟨fun j h => (by cases h), k0, a2_, p0, a3_⟩, a1_⟩
  | 1, hk =>
    cases hk
    exact ⟨fun n z => ⟨fun j h => (by cases h), k1, b3_, p1, b4_⟩, k1, p1, b3_, b4_, b1_, b5_⟩
  | 2, hk =>
    cases hk
    exact ⟨fun n z => ⟨fun j h => (by cases h), k2, d3_, p2, d4_⟩, k2, p2, d3_, d4_, d1_, d5_⟩
  | k + 3, hk => cases hk
set_option maxRecDepth 100000 in
set_option maxHeartbeats 4000000 in
theorem whole_start {p : Program} {e : Env} {s : State} {m : MethodId} {below : List Frame} {meth : Method} {c : Code} (l : Launch) (hflags : l.flags = flags0) {b L : Nat} {xs : Nat → Int32} (hL : L ≤ 260) (C0 : lw_At p s m meth c b L xs) : W p l e room_1 s m #[Value.ref b] below meth c s.heap [] 0 0 (lw_Z below #[Value.ref b] s) (entryFrame m ([Value.ref b] : List Value).toArray 10) := by
  obtain ⟨hx, hb, hr, hml, hown, htsT, hX, hbl, hlocks, hgv⟩ := id C0
  obtain ⟨D, y, hK, hN⟩ := wk_tabK htsT
  have hts : ∀ w ∈ wsL_law, w.before #[Value.ref b] s = true := fun w hw => htsT w (wsL_law_in w hw)
  have hbA : ¬ s.heap.size ≤ b := Nat.not_le.mpr hbl
  have hl := lv_entry ([.ref b]) (n := 10) (Nat.le_of_ble_eq_true rfl)
  rw [lg_entry_eq]
  generalize (lg_sl ([.ref b]) ++ List.replicate (10 - (lg_sl ([.ref b])).length) Slot.unset).toArray = ls at hl ⊢
  have hl : lv_has ls 10 [(0, .ref b)] := hl
  have hS : va_S (fun q => s.heap.size ≤ q) s.heap s.heap [] := va_S.rf
  generalize ho : s.heap.size = o at hS hbA hbl
  refine wk_nobj (cc := cL_law) (own := RL) (h := o) (ci := 3) (fs := wk_wb .null .null .null .null) (C := RX3) (T := TX3) (N := 5) hx hb hts inlX3 tyX3 tyX3_ok hown (hts _ (List.mem_of_getElem? (i := 0) rfl)) (hts _ (List.mem_of_getElem? (i := 1) rfl)) (hts _ (List.mem_of_getElem? (i := 2) rfl)) hK rfl (fun j hj => by rcases (show j = 0 ∨ j = 1 ∨ j = 2 ∨ j = 3 ∨ j = 4 by omega) with rfl | rfl | rfl | rfl | rfl <;> rfl) (Nat.le_of_ble_eq_true rfl) (Nat.le_of_ble_eq_true rfl) ho dL_law_0 (fun H1 e1 z1 o1 => ?_)
  have hS := wk_grow hS ho z1 o1
  refine lv_dup hx hb dL_law_3 rfl ?_
  refine va_callv (va_runI (As := []) (rest := [.ref o]) ⟨hx, hb, hml, hown, hts⟩ (m_X3_init (D := D) (y := y) l (o := o)) (cwI 0 hts gL_law_X3_init rfl rfl rfl (hts _ (List.mem_of_getElem? (i := 2) rfl)) (hts _ (List.mem_of_getElem? (i := 6) rfl)) (hts _ (List.mem_of_getElem? (i := 7) rfl)) rfl (by decide +kernel) ⟨Nat.le_of_ble_eq_true rfl, Nat.le_of_ble_eq_true rfl⟩) ⟨fun _ _ _ _ q => ⟨q.1, q.2.1, q.2.2.1, wk_K.calling q.2.2.2.1, wk_N3.calling q.2.2.2.2⟩, fun U hU hW => ⟨rfl, by rw [hU]; exact z1, by rw [hU]; exact e1, hK.moved hW, hN.moved hW⟩⟩ rfl rfl hl.1 rfl (lv_room (Nat.le_of_ble_eq_true rfl)) dL_law_4 ⟨Nat.le_of_ble_eq_true rfl, Nat.le_of_ble_eq_true rfl⟩) hS (fun q _ h1 => h1) (fun q h1 => h1) (fun u t H2 locs2 ht hvm hw hB hz2 hk2 hS => ?_)
  obtain ⟨z2, hf, ho2⟩ := hB
  rw [ht] at z2 hf ho2
  refine lv_astore_n (lv' := [(1, .ref o), (0, .ref b)]) hx hb dL_law_7 rfl hl (by decide) rfl (fun ls hl => ?_)
  refine lv_iconst (v := 5) hx hb dL_law_8 (by decide) ?_
  refine wk_nint (h := o + 215) (N := 5) hx hb (hts _ (List.mem_of_getElem? (i := 3) rfl)) hK (by decide) (by decide) (by decide) (Nat.le_of_ble_eq_true rfl) (Nat.le_of_ble_eq_true rfl) z2 dL_law_9 (fun H3 e14 z3 o3 => ?_)
  have hf := hf.kept (fun q q1 q2 => o3 q (by omega))
  have ho2 := ho2.kept (o3 (o + 212) (by omega))
  have hS := wk_grow hS z2 z3 o3
  refine lv_astore_n (lv' := [(2, .ref (o + 215)), (1, .ref o), (0, .ref b)]) hx hb dL_law_11 rfl hl (by decide) rfl (fun ls hl => ?_)
  refine lv_bipush (v := 64) hx hb dL_law_12 (by decide) ?_
  refine wk_nint (h := o + 216) (N := 64) hx hb (hts _ (List.mem_of_getElem? (i := 3) rfl)) hK (by decide) (by decide) (by decide) (Nat.le_of_ble_eq_true rfl) (Nat.le_of_ble_eq_true rfl) z3 dL_law_14 (fun H4 e15 z4 o4 => ?_)
  have hf := hf.kept (fun q q1 q2 => o4 q (by omega))
  have ho2 := ho2.kept (o4 (o + 212) (by omega))
  have e14 := e14.kept (o4 (o + 215) (by omega))
  have hS := wk_grow hS z3 z4 o4
  refine lv_astore_n (lv' := [(3, .ref (o + 216)), (2, .ref (o + 215)), (1, .ref o), (0, .ref b)]) hx hb dL_law_16 rfl hl (by decide) rfl (fun ls hl => ?_)
  refine lv_bipush (v := 64) hx hb dL_law_17 (by decide) ?_
  refine wk_nint (h := o + 217) (N := 64) hx hb (hts _ (List.mem_of_getElem? (i := 3) rfl)) hK (by decide) (by decide) (by decide) (Nat.le_of_ble_eq_true rfl) (Nat.le_of_ble_eq_true rfl) z4 dL_law_19 (fun H5 e16 z5 o5 => ?_)
  have hf := hf.kept (fun q q1 q2 => o5 q (by omega))
  have ho2 := ho2.kept (o5 (o + 212) (by omega))
  have e14 := e14.kept (o5 (o + 215) (by omega))
  have e15 := e15.kept (o5 (o + 216) (by omega))
  have hS := wk_grow hS z4 z5 o5
  refine lv_astore (lv' := [(4, .ref (o + 217)), (3, .ref (o + 216)), (2, .ref (o + 215)), (1, .ref o), (0, .ref b)]) hx hb dL_law_21 hl (by decide) rfl (fun ls hl => ?_)
  refine lv_bipush (v := 48) hx hb dL_law_23 (by decide) ?_
  refine wk_nint (h := o + 218) (N := 48) hx hb (hts _ (List.mem_of_getElem? (i := 3) rfl)) hK (by decide) (by decide) (by decide) (Nat.le_of_ble_eq_true rfl) (Nat.le_of_ble_eq_true rfl) z5 dL_law_25 (fun H6 e17 z6 o6 => ?_)
  have hf := hf.kept (fun q q1 q2 => o6 q (by omega))
  have ho2 := ho2.kept (o6 (o + 212) (by omega))
  have e14 := e14.kept (o6 (o + 215) (by omega))
  have e15 := e15.kept (o6 (o + 216) (by omega))
  have e16 := e16.kept (o6 (o + 217) (by omega))
  have hS := wk_grow hS z5 z6 o6
  refine lv_astore (lv' := [(5, .ref (o + 218)), (4, .ref (o + 217)), (3, .ref (o + 216)), (2, .ref (o + 215)), (1, .ref o), (0, .ref b)]) hx hb dL_law_27 hl (by decide) rfl (fun ls hl => ?_)
  refine lv_bipush (v := 36) hx hb dL_law_29 (by decide) ?_
  refine wk_nint (h := o + 219) (N := 36) hx hb (hts _ (List.mem_of_getElem? (i := 3) rfl)) hK (by decide) (by decide) (by decide) (Nat.le_of_ble_eq_true rfl) (Nat.le_of_ble_eq_true rfl) z6 dL_law_31 (fun H7 e18 z7 o7 => ?_)
  have hf := hf.kept (fun q q1 q2 => o7 q (by omega))
  have ho2 := ho2.kept (o7 (o + 212) (by omega))
  have e14 := e14.kept (o7 (o + 215) (by omega))
  have e15 := e15.kept (o7 (o + 216) (by omega))
  have e16 := e16.kept (o7 (o + 217) (by omega))
  have e17 := e17.kept (o7 (o + 218) (by omega))
  have hS := wk_grow hS z6 z7 o7
  refine lv_astore (lv' := [(6, .ref (o + 219)), (5, .ref (o + 218)), (4, .ref (o + 217)), (3, .ref (o + 216)), (2, .ref (o + 215)), (1, .ref o), (0, .ref b)]) hx hb dL_law_33 hl (by decide) rfl (fun ls hl => ?_)
  have hP := wk_H_0 hf ho2 e14 e15 e16 e17 e18
  subst ho
  obtain ⟨MM, hlaw⟩ := wk_law0 (xs := xs) (Lx := L)
  exact w_L_law_35 (B := wk_bb s.heap.size) (Lk := wk_Lk0) (D := D) (y := y) (MM := MM) (r0 := 1) (Lx := L) (xs := xs) (bb := b) ⟨⟨hx, hb, hml, hown, hts⟩, hK, wk_I0, wk_L0, wk_19n, wk_A0, Nat.le_of_ble_eq_true rfl, Nat.le_of_ble_eq_true rfl, ⟨hX, by omega⟩, hbl, hbA⟩ (fun v M H locs pc ls cells slots hc hsl hv hH hS hd => by
    have hv1 : v = 1 := congrArg Prod.fst (Option.some.inj hv)
    subst hv1
    refine va_forget hS.2.2 ?_
    refine W.widen (k := room_1.cells) (n := room_1.slots) hc hsl ?_
    exact lw_ret hx hb hr hlocks hd) (Nat.le_of_ble_eq_true rfl) (Nat.le_of_ble_eq_true rfl) hlaw (lv_sub hl [6, 5, 4, 3, 2, 1, 0] rfl) hP hS
-- ===== YOUR PART ENDS =====
set_option maxHeartbeats 4000000 in
theorem lw_walk (l : Launch) (hflags : l.flags = flags0) (b : Addr) (xs : List Int32) : MetFree l x (headSpec (Jvm.Cond.code x code maxLocals ret :: tables_1) room_1) (lw_P b xs) (fun _ _ _ _ _ => True) lw_Q := by
  refine MetFree.of_bodyS (code := code) (maxLocals := maxLocals) (ret := ret) (by decide) ?_ ?_
  · intro args s m h hn
    obtain ⟨meth, c, h1, h2, h3, h4, h5, h6, -, -⟩ := Cond.code_spec hn (atoms_spec (ws := Jvm.Cond.code x code maxLocals ret :: tables_1) h _ List.mem_cons_self)
    exact ⟨meth, c, h1, h2, h3, h4, h5, h6⟩
  · intro p e s m args below meth c s₁ B hml0 hP _
    obtain ⟨rfl, hx, hbd, hgv⟩ := hP
    obtain ⟨scr, harrAt, hlist, hof, hsmall⟩ := hx
    obtain ⟨hcb, hkn, -, -⟩ := State.arrayAt?_spec harrAt
    have hown : s.vm.findClass R_law = some m.cls := findClass_of_methodNamed B.named
    have hts0 : ∀ c ∈ (Jvm.Cond.code x code maxLocals ret :: tables_1), c.before #[Value.ref b] s = true := atoms_spec (ws := Jvm.Cond.code x code maxLocals ret :: tables_1) B.pre
    have hts : ∀ w ∈ lw_tbl, w.before #[Value.ref b] s = true := k2_hts_sels lw_privs (fun w hw => hts0 w (List.mem_cons_of_mem _ hw)) lw_privs_ok
    have hml : c.maxLocals = 10 := B.maxLocals_eq (hts0 _ List.mem_cons_self)
    have X₀ : Stand p l e room_1 s m #[Value.ref b] below meth c s₁ [] 0 0 := Stand.of_body B
    have hh0 : s₁.heap = s.heap := by rw [B.state]; rfl
    have hsz : scr.slots.size = xs.length := by rw [← Array.length_toList, hlist, List.length_map]
    have hval : ∀ j : Nat, j < xs.length → scr.slots[j]? = some (.int (xs.getD j 0)) := fun j hj => by
      rw [← Array.getElem?_toList, hlist]
      simp [hj]
    have hbl : b < s.heap.size := (Array.getElem?_eq_some_iff.mp hcb).1
    have hX : va_X b xs.length (fun j => xs.getD j 0) s s.heap := ⟨scr, hcb, hof, hkn, hsz, hval⟩
    have K : W p l e room_1 s m #[Value.ref b] below meth c s₁.heap [] 0 0 (lw_Z below #[Value.ref b] s) (entryFrame m ([Value.ref b] : List Value).toArray 10) := by
      rw [hh0]
      exact whole_start l hflags hbd ⟨B.exec, B.bytes, B.returns, hml, hown, hts, hX, hbl, B.notSynchronized, hgv⟩
    obtain ⟨t, a1, o, b1, b2, b3⟩ := K s₁ rfl X₀
    exact ⟨t, o, a1, b1, b2, b3⟩
theorem lw_pre_spec {args : Array Value} {s : State} (h : (Jvm.Cond.and given_1 narrow_1).before args s = true) (hr : rest_1_c.before args s = true) : ∃ (b : Addr) (xs : List Int32), lw_P b xs args s := by
  have hs := flat_of_before _ h
  have hq := flat_of_before _ hr
  have hc : (Cond.count 1).before args s = true := hs _ (by decide +kernel)
  have harr : (Cond.arrayOf (.arg 0) .int).before args s = true := hs _ (by decide +kernel)
  have hle : (Cond.le (.length (.arg 0)) (.int 260)).before args s = true := hs _ (by decide +kernel)
  have hlen : (Cond.isInt (.length (.arg 0))).before args s = true := hq _ (by decide +kernel)
  have hall : (Cond.all (.arg 0) (.isInt (.elem (.arg 0) (.index 0)))).before args s = true := hq _ (by decide +kernel)
  obtain ⟨b, xs, hb, hx⟩ := State.ints_of_pre rfl harr hlen hall
  have hsm : xs.length < 2 ^ 31 := hx.choose_spec.2.2.2
  have hev : (Term.length (.arg 0)).eval args s none [] s = some (.int xs.length.toInt32) := hx.length_eval hb
  have hv := Cond.le_ints hev (show (Term.int 260).eval args s none [] s = some (.int 260) from rfl)
  have hd : xs.length.toInt32 ≤ 260 := by
    simpa [Cond.before, Cond.holds, hv] using hle
  have hN : xs.length ≤ 260 := (Int32.ofNat_le_ofNat hsm (by decide)).mp (show Int32.ofNat xs.length ≤ Int32.ofNat 260 from hd)
  exact ⟨b, xs, Cond.one_arg hc (show args[0]? = some (.ref b) from hb), hx, hN, h⟩
theorem lw_comes (l : Launch) (hflags : l.flags = flags0) : Comes l x (Jvm.Cond.code x code maxLocals ret :: tables_1) room_1 (fun tb e args s => Calls_1 tb e args s ∧ rest_1 tb e args s ∧ Pre_1 tb e args s)
    (fun _ _ args s o t => lw_Q args s o t) := by
  intro p e ha hc hk s m args below hf hfit hheap happ hpre
  obtain ⟨b, xs, hP⟩ := lw_pre_spec hpre.2.2 hpre.2.1
  obtain ⟨k, o, h1, h2, h3, hQ⟩ := lw_walk l hflags b xs p e ha hc hk s m args below hf ((Spec.applies_iff_loose hf).mp happ).1 hP trivial
  exact ⟨k, o, h1, h2, h3, hQ⟩
theorem lw_frame {s t : State} {o : Outcome} {args : Array Value} (h : Framed s o t [] room_1.cells room_1.slots) :
    Framed s o t (fieldLocs frame_1_writes args s ++ arrayLocs frame_1_arrays args s ++ staticLocs frame_1_statics s) room_1.cells room_1.slots := h
theorem lw_limb (L : Cond) (hL : ∀ (args : Array Value) (s t : State), L.after args s (.returned (some (.int 1))) t = true) :
    ArmFor flags0 classFile x code maxLocals ret World_1 tables_1 room_1 Calls_1 rest_1 Pre_1
      (fun tb e a s o t => postC L tb e a s o t ∧ Framed s o t (fieldLocs frame_1_writes a s ++ arrayLocs frame_1_arrays a s ++ staticLocs frame_1_statics s) room_1.cells room_1.slots) := by
  intro l hflags _ _ p e ha hc hk s m args below hf hfit hheap happ hpre
  obtain ⟨k, o, h1, h2, h3, rfl, hF⟩ := lw_comes l hflags p e ha hc hk s m args below hf hfit hheap happ hpre
  exact ⟨k, _, h1, h2, h3, hL args s _, lw_frame hF⟩
theorem i_vc : Claimed_1_1 ∧ Claimed_1_2 := ⟨lw_limb limb_1_1 (fun args s t => by simp [limb_1_1, Cond.after, Cond.holds, Cond.value]), lw_limb limb_1_2 (fun args s t => Cond.after_iff.mpr (by
  first | (rw [show limb_1_2 = Cond.eq .result (.int 1) from rfl, Cond.eq_ints (x := 1) (y := 1) rfl rfl]; simp; done) | (simp [limb_1_2, Cond.value, Term.eval]; done)))⟩
