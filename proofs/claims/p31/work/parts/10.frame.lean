/-! the memory of ints: kind, chip, room, slot; each cell of the world is read off a row of it -/
abbrev wk_T : Type := Nat → Nat → Nat → Nat → Int32
def wk_ur (M : wk_T) (k c i : Nat) (f : Nat → Int32) : wk_T := fun k' c' i' => if k' = k ∧ c' = c ∧ i' = i then f else M k' c' i'
def wk_up (M : wk_T) (k c i s : Nat) (v : Int32) : wk_T := wk_ur M k c i (upd (M k c i) s v)
theorem wk_ur_s {M : wk_T} {k c i : Nat} {f : Nat → Int32} : wk_ur M k c i f k c i = f := if_pos ⟨rfl, rfl, rfl⟩
theorem wk_ur_n {M : wk_T} {k c i k' c' i' : Nat} {f : Nat → Int32} (h : ¬ (k' = k ∧ c' = c ∧ i' = i)) : wk_ur M k c i f k' c' i' = M k' c' i' := if_neg h
def wk_cel (y : Nat → ClassId) (B : Nat → Nat → Nat → Nat) (r : Nat → Int32) (k c i : Nat) : va_E := match k with
  | 0 => .inr (0, [.ref (B 1 c i), .int (r 1), .ref (B 2 c i), .ref (B 3 c i), .ref (B 4 c i), .ref (B 5 c i), .int (r 6), .int (r 7)])
  | 1 => .inl (y 1, 8, .inr (.inr (.inr (.inr (fun j => some (B 6 c j))))))
  | 2 => .inl (y 0, 2, .inl r)
  | 3 => .inl (y 0, 12, .inl r)
  | 4 => .inl (y 0, 12, .inl r)
  | 5 => .inl (y 0, 12, .inl r)
  | 6 => .inr (2, [.ref (B 7 c i), .ref (B 8 c i), .int (r 2), .int (r 3), .int (r 4), .int (r 5), .int (r 6), .int (r 7), .int (r 8), .int (r 9), .int (r 10), .int (r 11), .int (r 12), .int (r 13), .int (r 14)])
  | 7 => .inl (y 0, 5, .inl r)
  | 8 => .inl (y 0, 4, .inl r)
  | 9 => .inr (3, [.ref (B 0 0 0), .ref (B 0 1 0), .ref (B 10 0 0), .int (r 3), .ref (B 11 0 0)])
  | 10 => .inl (y 2, 5, .inr (.inr (.inr (.inr (fun j => some (B 0 (r j).toNatClampNeg 0))))))
  | 11 => .inr (1, [.ref (B 12 0 0), .int (r 1), .int (r 2), .int (r 3), .ref (B 13 0 0), .int (r 5), .int (r 6), .int (r 7), .int (r 8)])
  | 14 => .inl (y 0, 5, .inl r)
  | 15 => .inl (y 0, 64, .inl r)
  | 16 => .inl (y 0, 64, .inl r)
  | 17 => .inl (y 0, 48, .inl r)
  | 18 => .inl (y 0, 36, .inl r)
  | _ => .inl (y 0, 4, .inl r)
section WKC
variable {y : Nat → ClassId} {B : Nat → Nat → Nat → Nat} {r : Nat → Int32} {c i : Nat}
theorem wk_c0 : wk_cel y B r 0 c i = .inr (0, [.ref (B 1 c i), .int (r 1), .ref (B 2 c i), .ref (B 3 c i), .ref (B 4 c i), .ref (B 5 c i), .int (r 6), .int (r 7)]) := rfl
theorem wk_c1 : wk_cel y B r 1 c i = .inl (y 1, 8, .inr (.inr (.inr (.inr (fun j => some (B 6 c j)))))) := rfl
theorem wk_c2 : wk_cel y B r 2 c i = .inl (y 0, 2, .inl r) := rfl
theorem wk_c3 : wk_cel y B r 3 c i = .inl (y 0, 12, .inl r) := rfl
theorem wk_c4 : wk_cel y B r 4 c i = .inl (y 0, 12, .inl r) := rfl
theorem wk_c5 : wk_cel y B r 5 c i = .inl (y 0, 12, .inl r) := rfl
theorem wk_c6 : wk_cel y B r 6 c i = .inr (2, [.ref (B 7 c i), .ref (B 8 c i), .int (r 2), .int (r 3), .int (r 4), .int (r 5), .int (r 6), .int (r 7), .int (r 8), .int (r 9), .int (r 10), .int (r 11), .int (r 12), .int (r 13), .int (r 14)]) := rfl
theorem wk_c7 : wk_cel y B r 7 c i = .inl (y 0, 5, .inl r) := rfl
theorem wk_c8 : wk_cel y B r 8 c i = .inl (y 0, 4, .inl r) := rfl
theorem wk_c9 : wk_cel y B r 9 c i = .inr (3, [.ref (B 0 0 0), .ref (B 0 1 0), .ref (B 10 0 0), .int (r 3), .ref (B 11 0 0)]) := rfl
theorem wk_c10 : wk_cel y B r 10 c i = .inl (y 2, 5, .inr (.inr (.inr (.inr (fun j => some (B 0 (r j).toNatClampNeg 0)))))) := rfl
theorem wk_c11 : wk_cel y B r 11 c i = .inr (1, [.ref (B 12 0 0), .int (r 1), .int (r 2), .int (r 3), .ref (B 13 0 0), .int (r 5), .int (r 6), .int (r 7), .int (r 8)]) := rfl
theorem wk_c14 : wk_cel y B r 14 c i = .inl (y 0, 5, .inl r) := rfl
theorem wk_c15 : wk_cel y B r 15 c i = .inl (y 0, 64, .inl r) := rfl
theorem wk_c16 : wk_cel y B r 16 c i = .inl (y 0, 64, .inl r) := rfl
theorem wk_c17 : wk_cel y B r 17 c i = .inl (y 0, 48, .inl r) := rfl
theorem wk_c18 : wk_cel y B r 18 c i = .inl (y 0, 36, .inl r) := rfl
theorem wk_c19 : wk_cel y B r 19 c i = .inl (y 0, 4, .inl r) := rfl
end WKC
/-- the heap holds the memory, for the cells of Lk, at the addresses of B -/
def wk_H (D : va_G) (y : Nat → ClassId) (B : Nat → Nat → Nat → Nat) (Lk : Nat → Nat → Nat → Prop) (M : wk_T) (H : Heap) : Prop := ∀ k c i, Lk k c i → va_at D vwCl (B k c i, wk_cel y B (M k c i) k c i) H
def wk_I (B : Nat → Nat → Nat → Nat) (Lk : Nat → Nat → Nat → Prop) : Prop := ∀ k c i k' c' i', Lk k c i → Lk k' c' i' → B k c i = B k' c' i' → k = k' ∧ c = c' ∧ i = i'
def wk_A (B : Nat → Nat → Nat → Nat) (Lk : Nat → Nat → Nat → Prop) : Nat → Prop := fun q => ∃ k c i, Lk k c i ∧ q = B k c i
/-- which cells there are -/
def wk_L (Lk : Nat → Nat → Nat → Prop) : Prop := (∀ k c, k ≤ 5 → c < 7 → Lk k c 0) ∧ (∀ k c i, 6 ≤ k → k ≤ 8 → c < 7 → i < 8 → Lk k c i) ∧ (∀ k, 9 ≤ k → k ≤ 11 → Lk k 0 0) ∧ (∀ k, 14 ≤ k → k ≤ 18 → Lk k 0 0)
abbrev wk_ty (y : Nat → ClassId) : List (ClassId × FieldType) := [(y 0, .int), (y 1, .object RX2), (y 2, .object RX0)]
/-- what the tables give -/
def wk_K (D : va_G) (y : Nat → ClassId) (U : State) : Prop := va_K D vwCl (wk_ty y) U ∧ va_Nw (.methodLinkNest "WokenRooms$Chip" 82 yX3_outside "WokenRooms") U
theorem wk_K.moved {D : va_G} {y : Nat → ClassId} {u U : State} (hW : u.WarmedH U.vm) (h : wk_K D y u) : wk_K D y U := ⟨va_K.moved hW.alike h.1, va_Nw.warmM hW h.2⟩
theorem wk_K.calling {D : va_G} {y : Nat → ClassId} {U : State} {g : JFrame} {mk : MethodId} {a : Array Value} (h : wk_K D y U) : wk_K D y (U.calling g mk a) := ⟨va_K.moved (u := U) (U := U.calling g mk a) (Vm.Alike.refl U.vm) h.1, va_Nw.same rfl rfl h.2⟩
def wk_W (D : va_G) (y : Nat → ClassId) (B : Nat → Nat → Nat → Nat) (Lk : Nat → Nat → Nat → Prop) (M : wk_T) (U : State) : Prop := wk_H D y B Lk M U.heap ∧ wk_K D y U
theorem wk_blind {D : va_G} {y : Nat → ClassId} {B : Nat → Nat → Nat → Nat} {Lk : Nat → Nat → Nat → Prop} {M : wk_T} {av : List Value} : FrameBlind (va_Pc av (wk_W D y B Lk M)) := fun _ _ _ _ q => ⟨q.1, q.2.1, wk_K.calling q.2.2⟩
theorem wk_H.kept {D : va_G} {y : Nat → ClassId} {B : Nat → Nat → Nat → Nat} {Lk : Nat → Nat → Nat → Prop} {M : wk_T} {H H1 : Heap} (h : wk_H D y B Lk M H) (hq : ∀ k c i, Lk k c i → H1[B k c i]? = H[B k c i]?) : wk_H D y B Lk M H1 := fun k c i hl => (h k c i hl).kept (hq k c i hl)
theorem wk_H.row {D : va_G} {y : Nat → ClassId} {B : Nat → Nat → Nat → Nat} {Lk : Nat → Nat → Nat → Prop} {M : wk_T} {H H1 : Heap} {k c i : Nat} {f : Nat → Int32} (h : wk_H D y B Lk M H) (hI : wk_I B Lk) (hid : Lk k c i) (he : va_at D vwCl (B k c i, wk_cel y B f k c i) H1) (oq : ∀ q : Nat, q ≠ B k c i → H1[q]? = H[q]?) : wk_H D y B Lk (wk_ur M k c i f) H1 := by
  intro k' c' i' hl
  by_cases hz : k' = k ∧ c' = c ∧ i' = i
  · obtain ⟨rfl, rfl, rfl⟩ := hz
    rw [wk_ur_s]
    exact he
  · rw [wk_ur_n hz]
    exact (h k' c' i' hl).kept (oq _ (fun z => hz (hI _ _ _ _ _ _ hl hid z)))
theorem wk_H.one {D : va_G} {y : Nat → ClassId} {B : Nat → Nat → Nat → Nat} {Lk : Nat → Nat → Nat → Prop} {M : wk_T} {H : Heap} {k c i : Nat} {e : va_E} (h : wk_H D y B Lk M H) (hid : Lk k c i) (he : wk_cel y B (M k c i) k c i = e) : va_P D vwCl [(B k c i, e)] H := by
  intro j q hq
  have hj : j < 1 := (List.getElem?_eq_some_iff.mp hq).1
  rw [show j = 0 by omega] at hq
  cases hq
  rw [← he]
  exact h k c i hid
theorem wk_l0 {Lk : Nat → Nat → Nat → Prop} (h : wk_L Lk) {c : Nat} (hc : c < 7) (k : Nat) (hk : k ≤ 5) : Lk k c 0 := h.1 k c hk hc
theorem wk_l6 {Lk : Nat → Nat → Nat → Prop} (h : wk_L Lk) {c i : Nat} (hc : c < 7) (hi : i < 8) (k : Nat) (h1 : 6 ≤ k) (h2 : k ≤ 8) : Lk k c i := h.2.1 k c i h1 h2 hc hi
theorem wk_l9 {Lk : Nat → Nat → Nat → Prop} (h : wk_L Lk) (k : Nat) (h1 : 9 ≤ k) (h2 : k ≤ 11) : Lk k 0 0 := h.2.2.1 k h1 h2
theorem wk_lL {Lk : Nat → Nat → Nat → Prop} (h : wk_L Lk) (k : Nat) (h1 : 14 ≤ k) (h2 : k ≤ 18) : Lk k 0 0 := h.2.2.2 k h1 h2
theorem wk_ix {x : Int32} {n : Nat} (h : ¬ (x < 0 ∨ n ≤ x.toNatClampNeg)) : x.toNatClampNeg < n := Nat.not_le.mp fun q => h (Or.inr q)
/-! the functions that the walks compute -/
def wk_gd {α : Type} (c : Prop) [Decidable c] (a : Option α) : Option α := if c then a else none
def wk_cl {ρ α : Type} (f : Option (ρ × wk_T)) (k : ρ → wk_T → Option α) : Option α := match f with
  | some (r, M) => k r M
  | none => none
theorem wk_gd_e {α : Type} {c : Prop} [Decidable c] {a : Option α} {x : α} (h : wk_gd c a = some x) : c ∧ a = some x := by
  unfold wk_gd at h
  split at h
  · exact ⟨by assumption, h⟩
  · cases h
theorem wk_cl_e {ρ α : Type} {f : Option (ρ × wk_T)} {k : ρ → wk_T → Option α} {x : α} (h : wk_cl f k = some x) : ∃ r M, f = some (r, M) ∧ k r M = some x := by
  unfold wk_cl at h
  split at h
  · exact ⟨_, _, rfl, h⟩
  · cases h
theorem wk_p {α : Type} {c : Prop} [Decidable c] {a b x : α} (hc : c) (h : (if c then a else b) = x) : a = x := by rw [if_pos hc] at h; exact h
theorem wk_n {α : Type} {c : Prop} [Decidable c] {a b x : α} (hc : ¬ c) (h : (if c then a else b) = x) : b = x := by rw [if_neg hc] at h; exact h
def wk_lt {α : Type} (v : Int32) (k : Int32 → Option α) : Option α := k v
def wk_ll {α : Type} (v : Int64) (k : Int64 → Option α) : Option α := k v
def wk_ln {α : Type} (v : Nat) (k : Nat → Option α) : Option α := k v
def wk_mu {α : Type} (v : wk_T) (k : wk_T → Option α) : Option α := k v
theorem wk_lt_e {α : Type} {v : Int32} {k : Int32 → Option α} {x : α} (h : wk_lt v k = some x) : ∃ w, v = w ∧ k w = some x := ⟨v, rfl, h⟩
theorem wk_ll_e {α : Type} {v : Int64} {k : Int64 → Option α} {x : α} (h : wk_ll v k = some x) : ∃ w, v = w ∧ k w = some x := ⟨v, rfl, h⟩
theorem wk_ln_e {α : Type} {v : Nat} {k : Nat → Option α} {x : α} (h : wk_ln v k = some x) : ∃ w, v = w ∧ k w = some x := ⟨v, rfl, h⟩
theorem wk_mu_e {α : Type} {v : wk_T} {k : wk_T → Option α} {x : α} (h : wk_mu v k = some x) : ∃ w, v = w ∧ k w = some x := ⟨v, rfl, h⟩
def wk_rem (x y : Int32) : Int32 := x - x / y * y
def wk_lrm (x y : Int64) : Int64 := x - x / y * y
def wk_fuel : Nat := 100
section WKR
variable {p : Program} {l : Launch} {e : Env} {R : Room} {s : State} {m : MethodId} {args : Array Value} {below : List Frame} {meth : Method} {c : Code} {H : Heap} {locs : List Loc} {cells slots : Nat} {Q : State → Prop}
variable {cc : ByteArray} {pc : Nat} {ls : Array Slot} {rest : List Value} {D : va_G} {y : Nat → ClassId} {B : Nat → Nat → Nat → Nat} {Lk : Nat → Nat → Nat → Prop} {M : wk_T} {A : Nat → Prop} {H0 : Heap} {k0 c0 i0 : Nat}
theorem wk_get (hexec : p.tables.exec = Jvm.exec) (hb : c.code = cc) {own ref C : String} {T : u_T} {N ci index : Nat} {Ts : List Cond} (hts : ∀ w ∈ Ts, w.before args s = true) (hin : ∀ w ∈ u_ws C T N, w ∈ Ts) (hown : s.vm.findClass own = some m.cls) (hK : wk_K D y s) (hP : wk_H D y B Lk M H) (hid : Lk k0 c0 i0) {fs : List Value} (he : wk_cel y B (M k0 c0 i0) k0 c0 i0 = .inr (ci, fs)) (hc : vwCl[ci]? = some (C, T, N)) (k : Nat) (hk : k < N) (hlink : (Cond.fieldLink own index ref (T k).2.1 (T k).2.2.1).before args s = true) (hsame : (T k).1 = ref) {v : Value} (hv : fs[k]? = some v) (hdg : decode cc pc = .ok (.getfield index, 3))
    (kk : W p l e R s m args below meth c H locs cells slots Q (F0 m (pc + 3) ls (v :: rest))) : W p l e R s m args below meth c H locs cells slots Q (F0 m pc ls (.ref (B k0 c0 i0) :: rest)) :=
  va_get (ws := [(B k0 c0 i0, .inr (ci, fs))]) hexec hb hts hin hown hK.1 (hP.one hid he) 0 rfl hc k hk hlink (fun _ h => by rw [← hsame]; exact h) hv hdg kk
theorem wk_put (hexec : p.tables.exec = Jvm.exec) (hb : c.code = cc) {own ref C : String} {T : u_T} {N ci index : Nat} {Ts : List Cond} (hts : ∀ w ∈ Ts, w.before args s = true) (hin : ∀ w ∈ u_ws C T N, w ∈ Ts) (ty0 : Nat → FieldType) (hty : ∀ k, k < N → parseFieldDescriptor (T k).2.2.1 = some (ty0 k)) (hnm : ∀ a, a < N → ∀ b, b < N → a ≠ b → (T a).2.1 ≠ (T b).2.1) (hown : s.vm.findClass own = some m.cls) (hK : wk_K D y s) (hP : wk_H D y B Lk M H) (hI : wk_I B Lk) (hS0 : va_S A H0 H locs) (hA : ∀ q, wk_A B Lk q → A q) (hid : Lk k0 c0 i0) {fs : List Value} (he : wk_cel y B (M k0 c0 i0) k0 c0 i0 = .inr (ci, fs)) (hc : vwCl[ci]? = some (C, T, N)) (k : Nat) (hk : k < N) (hlink : (Cond.fieldLink own index ref (T k).2.1 (T k).2.2.1).before args s = true) (hsame : (T k).1 = ref) (hfin : (T k).2.2.2 = false) {v : Int32} (hd : parseFieldDescriptor (T k).2.2.1 = some .int) (hl : k < fs.length)
    (hnew : wk_cel y B (upd (M k0 c0 i0) k v) k0 c0 i0 = .inr (ci, fs.set k (.int v)))
    (hdg : decode cc pc = .ok (.putfield index, 3)) (kk : ∀ (H1 : Heap) (locs1 : List Loc), wk_H D y B Lk (wk_up M k0 c0 i0 k v) H1 → va_S A H0 H1 locs1 → W p l e R s m args below meth c H1 locs1 cells slots Q (F0 m (pc + 3) ls rest)) : W p l e R s m args below meth c H locs cells slots Q (F0 m pc ls (.int v :: .ref (B k0 c0 i0) :: rest)) := by
  have hap := va_apart (own := own) hts hin ty0 hty hnm hK.1 hc
  have h0 := hP k0 c0 i0 hid
  rw [he] at h0
  obtain ⟨r, h1, cell, q1, q2, q3, q4⟩ := h0
  have hr : r = (C, T, N) := Option.some.inj (h1.symm.trans hc)
  subst hr
  obtain ⟨hS, hfc, kC, hkC, hkind⟩ := hK.1.1 ci _ hc
  obtain ⟨cf, kf, fi, f, hi, hsl⟩ := hS k hk
  have hlay := hts _ (hin _ (u_in_lay hk))
  unfold u_lay at hlay
  rw [if_neg (by rw [hfin]; decide)] at hlay
  have hst := (u_facts hfc hkC (u_lays hts hin hk) hi).1
  have h6 := u_store (v := .int v) hfc hkC hkind hlay hi hd rfl rfl
  refine W.putK hexec hb (f := f) ⟨hown, hlink, ⟨_, _, _, by rw [← hsame]; exact hi⟩, hst⟩ (by rw [q2]; exact h6) q1 q3 (by rw [hsl]; exact k2_hasslot (q4 k hk)) rfl rfl hdg fun H' e1 e2 e3 => ?_
  rw [hsl] at e1 ⊢
  refine kk H' _ (hP.row hI hid ?_ e3) (hS0.put e2 e3 (hA _ ⟨_, _, _, hid, rfl⟩))
  rw [hnew]
  exact ⟨_, hc, t_OB.to (V := updV (vp_V fs) k (.int v)) ⟨_, e1, q2, q3, t_set q4 hap hk (.int v)⟩ (fun j _ => vp_updV_set hl (.int v) j)⟩
theorem wk_iald (hexec : p.tables.exec = Jvm.exec) (hb : c.code = cc) (hK : wk_K D y s) (hP : wk_H D y B Lk M H) (hid : Lk k0 c0 i0) {n : Nat} {f : Nat → Int32} (he : wk_cel y B (M k0 c0 i0) k0 c0 i0 = .inl (y 0, n, .inl f)) {i : Int32} {j : Nat} (hin : ¬ (i < 0 ∨ n ≤ i.toNatClampNeg)) (hj : i.toNatClampNeg = j) (hdg : decode cc pc = .ok (.iaload, 1))
    (kk : W p l e R s m args below meth c H locs cells slots Q (F0 m (pc + 1) ls (.int (f j) :: rest))) : W p l e R s m args below meth c H locs cells slots Q (F0 m pc ls (.int i :: .ref (B k0 c0 i0) :: rest)) := by
  subst hj
  exact va_iald (tys := wk_ty y) hexec hb hK.1 (hP.one hid he) 0 0 rfl rfl hin hdg kk
theorem wk_iast (hexec : p.tables.exec = Jvm.exec) (hb : c.code = cc) (hK : wk_K D y s) (hP : wk_H D y B Lk M H) (hI : wk_I B Lk) (hS : va_S A H0 H locs) (hA : ∀ q, wk_A B Lk q → A q) (hid : Lk k0 c0 i0) {n : Nat} {f : Nat → Int32} (he : wk_cel y B (M k0 c0 i0) k0 c0 i0 = .inl (y 0, n, .inl f)) {i x : Int32} {j : Nat} (hin : ¬ (i < 0 ∨ n ≤ i.toNatClampNeg)) (hj : i.toNatClampNeg = j) (hnew : wk_cel y B (upd (M k0 c0 i0) j x) k0 c0 i0 = .inl (y 0, n, .inl (upd f j x))) (hdg : decode cc pc = .ok (.iastore, 1))
    (kk : ∀ (H1 : Heap) (locs1 : List Loc), wk_H D y B Lk (wk_up M k0 c0 i0 j x) H1 → va_S A H0 H1 locs1 → W p l e R s m args below meth c H1 locs1 cells slots Q (F0 m (pc + 1) ls rest)) : W p l e R s m args below meth c H locs cells slots Q (F0 m pc ls (.int x :: .int i :: .ref (B k0 c0 i0) :: rest)) := by
  subst hj
  have h0 := hP k0 c0 i0 hid
  rw [he] at h0
  refine W.iast hexec hb h0 ((hK.1.2 0 _ rfl).1 n (fun j => .int (f j))) (fun q => by cases q) (by show ¬ (i < 0 ∨ (arrV _ _ _).slots.size ≤ _); rw [arrV_size]; exact hin) rfl rfl hdg fun H1 e z oq => ?_
  refine kk H1 _ (hP.row hI hid ?_ oq) (hS.put z oq (hA _ ⟨_, _, _, hid, rfl⟩))
  rw [hnew]
  show H1[B k0 c0 i0]? = some (vp_cell _ _)
  rw [e]
  rw [vp_cell_i, vp_cell_i, arrV_store]
  congr 2
  funext q
  by_cases hq : q = i.toNatClampNeg
  · subst hq
    simp [updV, upd]
  · simp [updV, upd, hq]
theorem wk_aaldR (hexec : p.tables.exec = Jvm.exec) (hb : c.code = cc) (hK : wk_K D y s) (hP : wk_H D y B Lk M H) (hid : Lk 1 c0 i0) {i : Int32} {j : Nat} (hin : ¬ (i < 0 ∨ 8 ≤ i.toNatClampNeg)) (hj : i.toNatClampNeg = j) (hdg : decode cc pc = .ok (.aaload, 1))
    (kk : W p l e R s m args below meth c H locs cells slots Q (F0 m (pc + 1) ls (.ref (B 6 c0 j) :: rest))) : W p l e R s m args below meth c H locs cells slots Q (F0 m pc ls (.int i :: .ref (B 1 c0 i0) :: rest)) := by
  subst hj
  exact va_aldq (tys := wk_ty y) hexec hb hK.1 (hP.one hid wk_c1) 0 1 rfl rfl hin hdg kk
theorem wk_aaldH (hexec : p.tables.exec = Jvm.exec) (hb : c.code = cc) (hK : wk_K D y s) (hP : wk_H D y B Lk M H) (hid : Lk 10 0 0) {i : Int32} {j n : Nat} (hin : ¬ (i < 0 ∨ 5 ≤ i.toNatClampNeg)) (hj : i.toNatClampNeg = j) (hn : (M 10 0 0 j).toNatClampNeg = n) (hdg : decode cc pc = .ok (.aaload, 1))
    (kk : W p l e R s m args below meth c H locs cells slots Q (F0 m (pc + 1) ls (.ref (B 0 n 0) :: rest))) : W p l e R s m args below meth c H locs cells slots Q (F0 m pc ls (.int i :: .ref (B 10 0 0) :: rest)) := by
  subst hj
  subst hn
  exact va_aldq (tys := wk_ty y) hexec hb hK.1 (hP.one hid wk_c10) 0 2 rfl rfl hin hdg kk
theorem wk_alen (hexec : p.tables.exec = Jvm.exec) (hb : c.code = cc) (hK : wk_K D y s) (hP : wk_H D y B Lk M H) (hid : Lk k0 c0 i0) {t0 : Nat} {cA : ClassId} {x : vp_A} (he : wk_cel y B (M k0 c0 i0) k0 c0 i0 = .inl (cA, x)) {ty : FieldType} (ht : (wk_ty y)[t0]? = some (cA, ty)) {v : Int32} (hv : Int32.ofNat x.1 = v) (hdg : decode cc pc = .ok (.arraylength, 1))
    (kk : W p l e R s m args below meth c H locs cells slots Q (F0 m (pc + 1) ls (.int v :: rest))) : W p l e R s m args below meth c H locs cells slots Q (F0 m pc ls (.ref (B k0 c0 i0) :: rest)) :=
  va_alen (tys := wk_ty y) hexec hb hK.1 (hP.one hid he) 0 t0 rfl ht hv hdg kk
/-- a chip into the row of chips -/
theorem wk_aast (hexec : p.tables.exec = Jvm.exec) (hb : c.code = cc) (hK : wk_K D y s) (hP : wk_H D y B Lk M H) (hI : wk_I B Lk) (hS : va_S A H0 H locs) (hA : ∀ q, wk_A B Lk q → A q) (hid : Lk 10 0 0) {cv : Nat} (hcv : cv < 7) (hv : Lk 0 cv 0) {i : Int32} {j : Nat} (hin : ¬ (i < 0 ∨ 5 ≤ i.toNatClampNeg)) (hj : i.toNatClampNeg = j) (hdg : decode cc pc = .ok (.aastore, 1))
    (kk : ∀ (H1 : Heap) (locs1 : List Loc), wk_H D y B Lk (wk_up M 10 0 0 j (nI cv)) H1 → va_S A H0 H1 locs1 → W p l e R s m args below meth c H1 locs1 cells slots Q (F0 m (pc + 1) ls rest)) : W p l e R s m args below meth c H locs cells slots Q (F0 m pc ls (.ref (B 0 cv 0) :: .int i :: .ref (B 10 0 0) :: rest)) := by
  subst hj
  have hlt : i.toNatClampNeg < 5 := wk_ix hin
  have h0' : ¬ i < 0 := fun q => hin (Or.inl q)
  have h0 := hP 10 0 0 hid
  rw [wk_c10] at h0
  have h9 := hP 0 cv 0 hv
  rw [wk_c0] at h9
  obtain ⟨r', hr', cellV, g1, g2, g3, -⟩ := h9
  have hcls := (hK.1.1 0 _ rfl).2
  obtain ⟨kA, comp, k1, k2, k3, -⟩ := (hK.1.2 2 _ rfl).2
  have hcomp : comp = D.1 0 := Option.some.inj (k3.symm.trans hcls.1)
  subst hcomp
  obtain ⟨kC, hkC, -⟩ := hcls.2
  refine W.aast hexec hb h0 (fun q h => by cases h) (fun h => by cases h) k1 k2 rfl hkC ⟨h0', by show _ < (arrV _ _ _).slots.size; rw [arrV_size]; exact hlt⟩ g1 (fun q h => by rw [g3] at h; cases h) (by rw [g2]; exact hkC) (by rw [g2]; exact va_assign hcls) rfl rfl hdg fun H1 e z oq => ?_
  refine kk H1 _ (hP.row hI hid ?_ oq) (hS.put z oq (hA _ ⟨_, _, _, hid, rfl⟩))
  rw [wk_c10]
  show H1[B 10 0 0]? = some (vp_cell _ _)
  rw [e]
  rw [vp_cell_q, vp_cell_q, arrV_store]
  congr 2
  funext q
  by_cases hq : q = i.toNatClampNeg
  · subst hq
    simp [updV, upd, va_rf, nI_clamp (show cv < 2 ^ 31 by omega)]
  · simp [updV, upd, hq]
theorem wk_copy (hexec : p.tables.exec = Jvm.exec) (hb : c.code = cc) (hml : c.maxLocals = ls.size) {own : String} {index : Nat} (hown : s.vm.findClass own = some m.cls) (hlink : (Cond.methodLink own index arraycopyName).before args s = true) (hnat : (Cond.native arraycopyName).before args s = true) (hstat : (Cond.static arraycopyName).before args s = true) (hini : (Cond.initialized "java/lang/System").before args s = true)
    (hK : wk_K D y s) (hP : wk_H D y B Lk M H) (hI : wk_I B Lk) (hS : va_S A H0 H locs) (hA : ∀ q, wk_A B Lk q → A q) {k1 c1 i1 : Nat} (hid : Lk k0 c0 i0) (hid1 : Lk k1 c1 i1) {n0 n1 : Nat} {f g : Nat → Int32} (he0 : wk_cel y B (M k0 c0 i0) k0 c0 i0 = .inl (y 0, n0, .inl f)) (he1 : wk_cel y B (M k1 c1 i1) k1 c1 i1 = .inl (y 0, n1, .inl g))
    {sp dp n : Int32} {spn dpn nn : Nat} (h1 : ¬ sp < 0) (h2 : ¬ dp < 0) (h3 : ¬ n < 0) (z1 : sp.toNatClampNeg = spn) (z2 : dp.toNatClampNeg = dpn) (z3 : n.toNatClampNeg = nn) (h4 : spn + nn ≤ n0) (h5 : dpn + nn ≤ n1)
    (hnew : wk_cel y B (va_cpy f g spn dpn nn) k1 c1 i1 = .inl (y 0, n1, .inl (va_cpy f g spn dpn nn)))
    (hframes : 1 ≤ R.frames) (hlocals : (rest.map fun v => v.category).sum + (nativeFrameWords "java/lang/System" "arraycopy" 5 + 11) ≤ R.locals) (hdg : decode cc pc = .ok (.invokestatic index, 3))
    (kk : ∀ (H1 : Heap) (locs1 : List Loc), wk_H D y B Lk (wk_ur M k1 c1 i1 (va_cpy f g spn dpn nn)) H1 → va_S A H0 H1 locs1 → W p l e R s m args below meth c H1 locs1 cells slots Q (F0 m (pc + 3) ls rest)) : W p l e R s m args below meth c H locs cells slots Q (F0 m pc ls (.int n :: .int dp :: .ref (B k1 c1 i1) :: .int sp :: .ref (B k0 c0 i0) :: rest)) := by
  subst z1
  subst z2
  subst z3
  have nn : ∀ z : Int32, ¬ z < 0 → z.toInt = (z.toNatClampNeg : Int) := by
    intro z hz
    have hz0 : (0 : Int) ≤ z.toInt := by
      have := Int32.not_lt.mp hz
      simpa using Int32.le_iff_toInt_le.mp this
    show z.toInt = ((z.toInt.toNat : Nat) : Int)
    omega
  intro T hT X
  have hc0 : H[B k0 c0 i0]? = some (vp_cell (y 0) (n0, .inl f)) := by have h := hP k0 c0 i0 hid; rw [he0] at h; exact h
  have hc1 : H[B k1 c1 i1]? = some (vp_cell (y 0) (n1, .inl g)) := by have h := hP k1 c1 i1 hid1; rw [he1] at h; exact h
  obtain ⟨-, k2, hk2, cm2, hkk2⟩ := (hK.1.2 0 _ rfl).1 n0 (fun j => .int (f j))
  obtain ⟨-, k3, hk3, cm3, hkk3⟩ := (hK.1.2 0 _ rfl).1 n1 (fun j => .int (g j))
  obtain ⟨vm', X', step⟩ := X.arraycopy hexec hown hlink hnat hstat hini (src := B k0 c0 i0) (dst := B k1 c1 i1) (cs := vp_cell (y 0) (n0, .inl f)) (cd := vp_cell (y 0) (n1, .inl g)) (srcPos := sp) (destPos := dp) (n := n) (by rw [hT]; exact hc0) (by rw [hT]; exact hc1)
    (fun _ h => by cases h) (fun _ h => by cases h) (fun h => by cases h) (fun h => by cases h) hk2 hk3 hkk2 hkk3 (by simp [refKind]) h1 h2 h3
    (by rw [nn sp h1, nn n h3]; show ¬ _ > ((arrV (y 0) n0 (fun j => .int (f j))).slots.size : Int); rw [arrV_size]; omega)
    (by rw [nn dp h2, nn n h3]; show ¬ _ > ((arrV (y 0) n1 (fun j => .int (g j))).slots.size : Int); rw [arrV_size]; omega)
    (fun vm₁ _ i hi => by
      have e : (vp_cell (y 0) (n0, .inl f)).slots.getD (sp.toNatClampNeg + i) .null = .int (f (sp.toNatClampNeg + i)) := by
        show (arrV (y 0) n0 (fun j => .int (f j))).slots.getD _ _ = _
        rw [Array.getD_eq_getD_getElem?, arrV_read _ _ (by omega)]
        rfl
      refine ⟨?_, ?_⟩
      · rw [e]
        rfl
      · rw [e]
        exact trivial)
    (g := F0 m pc ls (.int n :: .int dp :: .ref (B k1 c1 i1) :: .int sp :: .ref (B k0 c0 i0) :: rest)) rfl (by rw [hml]) (rest := rest) rfl (by rw [hb]; exact hdg) hframes (by show 2 * 0 + _ + _ ≤ _; omega)
  have e1 : copied (vp_cell (y 0) (n0, .inl f)) (vp_cell (y 0) (n1, .inl g)) sp dp n = vp_cell (y 0) (n1, .inl (va_cpy f g sp.toNatClampNeg dp.toNatClampNeg n.toNatClampNeg)) := va_copied (fun z => .int z) (y 0) (y 0) f g h4
  rw [e1] at X' step
  have hl : B k1 c1 i1 < H.size := (Array.getElem?_eq_some_iff.mp hc1).1
  have hheap : ((T.setVm vm').setCell (B k1 c1 i1) (vp_cell (y 0) (n1, .inl (va_cpy f g sp.toNatClampNeg dp.toNatClampNeg n.toNatClampNeg)))).heap = H.setIfInBounds (B k1 c1 i1) (vp_cell (y 0) (n1, .inl (va_cpy f g sp.toNatClampNeg dp.toNatClampNeg n.toNatClampNeg))) := by rw [← hT]; rfl
  have oq : ∀ q : Nat, q ≠ B k1 c1 i1 → (H.setIfInBounds (B k1 c1 i1) (vp_cell (y 0) (n1, .inl (va_cpy f g sp.toNatClampNeg dp.toNatClampNeg n.toNatClampNeg))))[q]? = H[q]? := fun q hq => by simp [Array.getElem?_setIfInBounds, Ne.symm hq]
  have hAb : A (B k1 c1 i1) := hA _ ⟨_, _, _, hid1, rfl⟩
  obtain ⟨t, a1, b1⟩ := kk _ _ (hP.row hI hid1 (by rw [hnew]; show (H.setIfInBounds (B k1 c1 i1) _)[B k1 c1 i1]? = some _; simp [Array.getElem?_setIfInBounds, hl]) oq) ⟨by simp; exact hS.1, fun q g1 g2 => by
      rw [oq q (fun e => g2 (by rw [e]; exact hAb))]
      exact hS.2.1 q g1 g2, fun q hq => by
      rcases List.mem_append.mp hq with h | h
      · exact hS.2.2 q h
      · obtain ⟨z, -, hz⟩ := List.mem_map.mp h
        rw [← hz]
        exact hAb⟩ _ hheap X'
  exact ⟨t, step t a1, b1⟩
theorem wk_topi {x w : Int32} (h : x = w) (k : W p l e R s m args below meth c H locs cells slots Q (F0 m pc ls (.int w :: rest))) : W p l e R s m args below meth c H locs cells slots Q (F0 m pc ls (.int x :: rest)) := by rw [h]; exact k
theorem wk_topl {x w : Int64} (h : x = w) (k : W p l e R s m args below meth c H locs cells slots Q (F0 m pc ls (.long w :: rest))) : W p l e R s m args below meth c H locs cells slots Q (F0 m pc ls (.long x :: rest)) := by rw [h]; exact k
theorem wk_irem (hexec : p.tables.exec = Jvm.exec) (hb : c.code = cc) {x y : Int32} (hne : ¬ y = 0) (hdg : decode cc pc = .ok (.irem, 1)) (k : W p l e R s m args below meth c H locs cells slots Q (F0 m (pc + 1) ls (.int (wk_rem x y) :: rest))) : W p l e R s m args below meth c H locs cells slots Q (F0 m pc ls (.int y :: .int x :: rest)) := lv_irem hexec hb hdg hne k
theorem wk_lrem (hexec : p.tables.exec = Jvm.exec) (hb : c.code = cc) {x y : Int64} (hne : ¬ y = 0) (hdg : decode cc pc = .ok (.lrem, 1)) (k : W p l e R s m args below meth c H locs cells slots Q (F0 m (pc + 1) ls (.long (wk_lrm x y) :: rest))) : W p l e R s m args below meth c H locs cells slots Q (F0 m pc ls (.long y :: .long x :: rest)) := lv_lrem hexec hb hdg hne k
end WKR
/-! contracts over the world -/
abbrev wk_Mi (l : Launch) (y0 : MethodName) (ws : List Cond) (fr lo : Nat) (D : va_G) (y : Nat → ClassId) (B : Nat → Nat → Nat → Nat) (Lk : Nat → Nat → Nat → Prop) (av : List Value) (M : wk_T) (r0 : Int32) (MM : wk_T) : Prop := Met l y0 ws ({ frames := fr, cells := 0, slots := 0, locals := lo }) (va_Pc av (wk_W D y B Lk M)) (va_Qi (fun (r : Int32) (u : wk_T) => r = r0 ∧ u = MM) (fun u t => wk_W D y B Lk u t) (wk_A B Lk)) 0 0 (wk_A B Lk)
abbrev wk_Ml (l : Launch) (y0 : MethodName) (ws : List Cond) (fr lo : Nat) (D : va_G) (y : Nat → ClassId) (B : Nat → Nat → Nat → Nat) (Lk : Nat → Nat → Nat → Prop) (av : List Value) (M : wk_T) (r0 : Int64) (MM : wk_T) : Prop := Met l y0 ws ({ frames := fr, cells := 0, slots := 0, locals := lo }) (va_Pc av (wk_W D y B Lk M)) (va_Ql (fun (r : Int64) (u : wk_T) => r = r0 ∧ u = MM) (fun u t => wk_W D y B Lk u t) (wk_A B Lk)) 0 0 (wk_A B Lk)
abbrev wk_Mv (l : Launch) (y0 : MethodName) (ws : List Cond) (fr lo : Nat) (D : va_G) (y : Nat → ClassId) (B : Nat → Nat → Nat → Nat) (Lk : Nat → Nat → Nat → Prop) (av : List Value) (M : wk_T) (MM : wk_T) : Prop := Met l y0 ws ({ frames := fr, cells := 0, slots := 0, locals := lo }) (va_Pc av (wk_W D y B Lk M)) (va_Qv (fun (u : wk_T) => u = MM) (fun u t => wk_W D y B Lk u t) (wk_A B Lk)) 0 0 (wk_A B Lk)
/-- what stays fixed in a walk -/
def wk_X (p : Program) (l : Launch) (e : Env) (R : Room) (s : State) (m : MethodId) (args : Array Value) (below : List Frame) (meth : Method) (c : Code) (cells slots : Nat) (Q : State → Prop) (cc : ByteArray) (nL : Nat) (own : String) (ws : List Cond) (D : va_G) (y : Nat → ClassId) (B : Nat → Nat → Nat → Nat) (Lk : Nat → Nat → Nat → Prop) (A : Nat → Prop) (fr lo : Nat) : Prop :=
  (p.tables.exec = Jvm.exec ∧ c.code = cc ∧ c.maxLocals = nL ∧ s.vm.findClass own = some m.cls ∧ ∀ w ∈ ws, w.before args s = true) ∧ wk_K D y s ∧ wk_I B Lk ∧ wk_L Lk ∧ (∀ q, wk_A B Lk q → A q) ∧ fr ≤ R.frames ∧ lo ≤ R.locals ∧ cells + 0 ≤ R.cells ∧ slots + 0 ≤ R.slots
def wk_Ri (p : Program) (l : Launch) (e : Env) (R : Room) (s : State) (m : MethodId) (args : Array Value) (below : List Frame) (meth : Method) (c : Code) (cells slots : Nat) (Q : State → Prop) (cc : ByteArray) (D : va_G) (y : Nat → ClassId) (B : Nat → Nat → Nat → Nat) (Lk : Nat → Nat → Nat → Prop) (A : Nat → Prop) (r0 : Int32) (MM : wk_T) : Prop :=
  ∀ (v : Int32) (M : wk_T) (H : Heap) (locs : List Loc) (pc : Nat) (ls : Array Slot), some (v, M) = some (r0, MM) → wk_H D y B Lk M H → va_S A s.heap H locs → decode cc pc = .ok (.ireturn, 1) → W p l e R s m args below meth c H locs cells slots Q (F0 m pc ls [.int v])
def wk_Rz (p : Program) (l : Launch) (e : Env) (R : Room) (s : State) (m : MethodId) (args : Array Value) (below : List Frame) (meth : Method) (c : Code) (cells slots : Nat) (Q : State → Prop) (cc : ByteArray) (D : va_G) (y : Nat → ClassId) (B : Nat → Nat → Nat → Nat) (Lk : Nat → Nat → Nat → Prop) (A : Nat → Prop) (r0 : Int32) (MM : wk_T) : Prop :=
  ∀ (v : Int32) (M : wk_T) (H : Heap) (locs : List Loc) (pc : Nat) (ls : Array Slot), (v = 0 ∨ v = 1) → some (v, M) = some (r0, MM) → wk_H D y B Lk M H → va_S A s.heap H locs → decode cc pc = .ok (.ireturn, 1) → W p l e R s m args below meth c H locs cells slots Q (F0 m pc ls [.int v])
def wk_Rl (p : Program) (l : Launch) (e : Env) (R : Room) (s : State) (m : MethodId) (args : Array Value) (below : List Frame) (meth : Method) (c : Code) (cells slots : Nat) (Q : State → Prop) (cc : ByteArray) (D : va_G) (y : Nat → ClassId) (B : Nat → Nat → Nat → Nat) (Lk : Nat → Nat → Nat → Prop) (A : Nat → Prop) (r0 : Int64) (MM : wk_T) : Prop :=
  ∀ (v : Int64) (M : wk_T) (H : Heap) (locs : List Loc) (pc : Nat) (ls : Array Slot), some (v, M) = some (r0, MM) → wk_H D y B Lk M H → va_S A s.heap H locs → decode cc pc = .ok (.lreturn, 1) → W p l e R s m args below meth c H locs cells slots Q (F0 m pc ls [.long v])
def wk_Rv (p : Program) (l : Launch) (e : Env) (R : Room) (s : State) (m : MethodId) (args : Array Value) (below : List Frame) (meth : Method) (c : Code) (cells slots : Nat) (Q : State → Prop) (cc : ByteArray) (D : va_G) (y : Nat → ClassId) (B : Nat → Nat → Nat → Nat) (Lk : Nat → Nat → Nat → Prop) (A : Nat → Prop) (MM : wk_T) : Prop :=
  ∀ (M : wk_T) (H : Heap) (locs : List Loc) (pc : Nat) (ls : Array Slot), some ((), M) = some ((), MM) → wk_H D y B Lk M H → va_S A s.heap H locs → decode cc pc = .ok (.return_, 1) → W p l e R s m args below meth c H locs cells slots Q (F0 m pc ls [])
section WKM
variable {p : Program} {l : Launch} {e : Env} {R : Room} {s : State} {m : MethodId} {args : Array Value} {below : List Frame} {meth : Method} {c : Code} {H : Heap} {locs : List Loc} {cells slots : Nat} {Q : State → Prop}
variable {cc : ByteArray} {pc : Nat} {ls : Array Slot} {st0 rest As : List Value} {D : va_G} {y : Nat → ClassId} {B : Nat → Nat → Nat → Nat} {Lk : Nat → Nat → Nat → Prop} {M MM : wk_T} {A : Nat → Prop} {H0 : Heap} {k0 c0 i0 : Nat}
variable {own C : String} {Ts ws : List Cond} {nL fr lo index maxL n : Nat} {y0 : MethodName} {bytes : ByteArray} {ret : Option FieldType} {host : String}
theorem wk_recv (hK : wk_K D y s) (hP : wk_H D y B Lk M H) (hid : Lk k0 c0 i0) {ci : Nat} {fs : List Value} (he : wk_cel y B (M k0 c0 i0) k0 c0 i0 = .inr (ci, fs)) {T : u_T} {N : Nat} (hc : vwCl[ci]? = some (C, T, N)) : ∃ cell : Cell, H[B k0 c0 i0]? = some cell ∧ cell.vm.isStatics = false ∧ s.vm.findClass C = some cell.cls :=
  va_recv (ws := [(B k0 c0 i0, .inr (ci, fs))]) (q0 := 0) (q := (C, T, N)) hK.1 (hP.one hid he) hc rfl
theorem wk_cVi {r0 : Int32} (S : CallFix p m c cc nL s args Ts own) (hM : wk_Mi l y0 ws fr lo D y B Lk (.ref (B k0 c0 i0) :: As) M r0 MM) (cw : CallW R s args own C index y0 bytes maxL ret ws ({ frames := fr, cells := 0, slots := 0, locals := lo }) 0 0 n) (hK : wk_K D y s) (hP : wk_H D y B Lk M H) (hS : va_S A s.heap H locs) (hA : ∀ q, wk_A B Lk q → A q) (hid : Lk k0 c0 i0) {ci : Nat} {fs : List Value} (he : wk_cel y B (M k0 c0 i0) k0 c0 i0 = .inr (ci, fs)) {T : u_T} {N : Nat} (hc : vwCl[ci]? = some (C, T, N)) (hn : As.length = n) (hsize : ls.size = nL) (hW : 2 * (F0 m pc ls rest).monitorRoom + (rest.map fun v => v.category).sum ≤ 8) (hcs : cells + 0 ≤ R.cells ∧ slots + 0 ≤ R.slots) (hdg : decode cc pc = .ok (.invokevirtual index, 3))
    (kk : ∀ (H1 : Heap) (locs1 : List Loc), wk_H D y B Lk MM H1 → va_S A s.heap H1 locs1 → W p l e R s m args below meth c H1 locs1 cells slots Q (F0 m (pc + 3) ls (.int r0 :: rest))) (hst : st0 = As.reverse ++ .ref (B k0 c0 i0) :: rest := by rfl) : W p l e R s m args below meth c H locs cells slots Q (F0 m pc ls st0) := by
  subst hst
  refine va_calli (va_runV (As := As) (rest := rest) S hM cw ⟨wk_blind, wk_recv hK hP hid he hc, fun U hU hW => ⟨rfl, by rw [hU]; exact hP, hK.moved hW⟩⟩ rfl hn hsize rfl hW hdg hcs) hS (fun q _ h => hA q h) hA (fun r u t H1 locs1 ht hvm hw hB hz hk hS => ?_)
  obtain ⟨rfl, rfl⟩ := hw
  exact kk H1 locs1 (by rw [← ht]; exact hB.1) hS
theorem wk_cVl {r0 : Int64} (S : CallFix p m c cc nL s args Ts own) (hM : wk_Ml l y0 ws fr lo D y B Lk (.ref (B k0 c0 i0) :: As) M r0 MM) (cw : CallW R s args own C index y0 bytes maxL ret ws ({ frames := fr, cells := 0, slots := 0, locals := lo }) 0 0 n) (hK : wk_K D y s) (hP : wk_H D y B Lk M H) (hS : va_S A s.heap H locs) (hA : ∀ q, wk_A B Lk q → A q) (hid : Lk k0 c0 i0) {ci : Nat} {fs : List Value} (he : wk_cel y B (M k0 c0 i0) k0 c0 i0 = .inr (ci, fs)) {T : u_T} {N : Nat} (hc : vwCl[ci]? = some (C, T, N)) (hn : As.length = n) (hsize : ls.size = nL) (hW : 2 * (F0 m pc ls rest).monitorRoom + (rest.map fun v => v.category).sum ≤ 8) (hcs : cells + 0 ≤ R.cells ∧ slots + 0 ≤ R.slots) (hdg : decode cc pc = .ok (.invokevirtual index, 3))
    (kk : ∀ (H1 : Heap) (locs1 : List Loc), wk_H D y B Lk MM H1 → va_S A s.heap H1 locs1 → W p l e R s m args below meth c H1 locs1 cells slots Q (F0 m (pc + 3) ls (.long r0 :: rest))) (hst : st0 = As.reverse ++ .ref (B k0 c0 i0) :: rest := by rfl) : W p l e R s m args below meth c H locs cells slots Q (F0 m pc ls st0) := by
  subst hst
  refine va_calll (va_runV (As := As) (rest := rest) S hM cw ⟨wk_blind, wk_recv hK hP hid he hc, fun U hU hW => ⟨rfl, by rw [hU]; exact hP, hK.moved hW⟩⟩ rfl hn hsize rfl hW hdg hcs) hS (fun q _ h => hA q h) hA (fun r u t H1 locs1 ht hvm hw hB hz hk hS => ?_)
  obtain ⟨rfl, rfl⟩ := hw
  exact kk H1 locs1 (by rw [← ht]; exact hB.1) hS
theorem wk_cVv (S : CallFix p m c cc nL s args Ts own) (hM : wk_Mv l y0 ws fr lo D y B Lk (.ref (B k0 c0 i0) :: As) M MM) (cw : CallW R s args own C index y0 bytes maxL ret ws ({ frames := fr, cells := 0, slots := 0, locals := lo }) 0 0 n) (hK : wk_K D y s) (hP : wk_H D y B Lk M H) (hS : va_S A s.heap H locs) (hA : ∀ q, wk_A B Lk q → A q) (hid : Lk k0 c0 i0) {ci : Nat} {fs : List Value} (he : wk_cel y B (M k0 c0 i0) k0 c0 i0 = .inr (ci, fs)) {T : u_T} {N : Nat} (hc : vwCl[ci]? = some (C, T, N)) (hn : As.length = n) (hsize : ls.size = nL) (hW : 2 * (F0 m pc ls rest).monitorRoom + (rest.map fun v => v.category).sum ≤ 8) (hcs : cells + 0 ≤ R.cells ∧ slots + 0 ≤ R.slots) (hdg : decode cc pc = .ok (.invokevirtual index, 3))
    (kk : ∀ (H1 : Heap) (locs1 : List Loc), wk_H D y B Lk MM H1 → va_S A s.heap H1 locs1 → W p l e R s m args below meth c H1 locs1 cells slots Q (F0 m (pc + 3) ls rest)) (hst : st0 = As.reverse ++ .ref (B k0 c0 i0) :: rest := by rfl) : W p l e R s m args below meth c H locs cells slots Q (F0 m pc ls st0) := by
  subst hst
  refine va_callv (va_runV (As := As) (rest := rest) S hM cw ⟨wk_blind, wk_recv hK hP hid he hc, fun U hU hW => ⟨rfl, by rw [hU]; exact hP, hK.moved hW⟩⟩ rfl hn hsize rfl hW hdg hcs) hS (fun q _ h => hA q h) hA (fun u t H1 locs1 ht hvm hw hB hz hk hS => ?_)
  subst hw
  exact kk H1 locs1 (by rw [← ht]; exact hB.1) hS
theorem wk_cSi {r0 : Int32} (S : CallFix p m c cc nL s args Ts own) (hM : wk_Mi l y0 ws fr lo D y B Lk As M r0 MM) (cw : CallB R s args own index y0 bytes maxL ret ws ({ frames := fr, cells := 0, slots := 0, locals := lo }) 0 0 n ∧ (Cond.static y0).before args s = true) (hK : wk_K D y s) (hP : wk_H D y B Lk M H) (hS : va_S A s.heap H locs) (hA : ∀ q, wk_A B Lk q → A q) (hn : As.length = n) (hsize : ls.size = nL) (hW : 2 * (F0 m pc ls rest).monitorRoom + (rest.map fun v => v.category).sum ≤ 8) (hcs : cells + 0 ≤ R.cells ∧ slots + 0 ≤ R.slots) (hdg : decode cc pc = .ok (.invokestatic index, 3))
    (kk : ∀ (H1 : Heap) (locs1 : List Loc), wk_H D y B Lk MM H1 → va_S A s.heap H1 locs1 → W p l e R s m args below meth c H1 locs1 cells slots Q (F0 m (pc + 3) ls (.int r0 :: rest))) (hst : st0 = As.reverse ++ rest := by rfl) : W p l e R s m args below meth c H locs cells slots Q (F0 m pc ls st0) := by
  subst hst
  refine va_calli (va_runS (As := As) (rest := rest) S hM cw ⟨wk_blind, fun U hU hW => ⟨rfl, by rw [hU]; exact hP, hK.moved hW⟩⟩ rfl hn hsize rfl hW hdg hcs) hS (fun q _ h => hA q h) hA (fun r u t H1 locs1 ht hvm hw hB hz hk hS => ?_)
  obtain ⟨rfl, rfl⟩ := hw
  exact kk H1 locs1 (by rw [← ht]; exact hB.1) hS
theorem wk_cSl {r0 : Int64} (S : CallFix p m c cc nL s args Ts own) (hM : wk_Ml l y0 ws fr lo D y B Lk As M r0 MM) (cw : CallB R s args own index y0 bytes maxL ret ws ({ frames := fr, cells := 0, slots := 0, locals := lo }) 0 0 n ∧ (Cond.static y0).before args s = true) (hK : wk_K D y s) (hP : wk_H D y B Lk M H) (hS : va_S A s.heap H locs) (hA : ∀ q, wk_A B Lk q → A q) (hn : As.length = n) (hsize : ls.size = nL) (hW : 2 * (F0 m pc ls rest).monitorRoom + (rest.map fun v => v.category).sum ≤ 8) (hcs : cells + 0 ≤ R.cells ∧ slots + 0 ≤ R.slots) (hdg : decode cc pc = .ok (.invokestatic index, 3))
    (kk : ∀ (H1 : Heap) (locs1 : List Loc), wk_H D y B Lk MM H1 → va_S A s.heap H1 locs1 → W p l e R s m args below meth c H1 locs1 cells slots Q (F0 m (pc + 3) ls (.long r0 :: rest))) (hst : st0 = As.reverse ++ rest := by rfl) : W p l e R s m args below meth c H locs cells slots Q (F0 m pc ls st0) := by
  subst hst
  refine va_calll (va_runS (As := As) (rest := rest) S hM cw ⟨wk_blind, fun U hU hW => ⟨rfl, by rw [hU]; exact hP, hK.moved hW⟩⟩ rfl hn hsize rfl hW hdg hcs) hS (fun q _ h => hA q h) hA (fun r u t H1 locs1 ht hvm hw hB hz hk hS => ?_)
  obtain ⟨rfl, rfl⟩ := hw
  exact kk H1 locs1 (by rw [← ht]; exact hB.1) hS
theorem wk_cSv (S : CallFix p m c cc nL s args Ts own) (hM : wk_Mv l y0 ws fr lo D y B Lk As M MM) (cw : CallB R s args own index y0 bytes maxL ret ws ({ frames := fr, cells := 0, slots := 0, locals := lo }) 0 0 n ∧ (Cond.static y0).before args s = true) (hK : wk_K D y s) (hP : wk_H D y B Lk M H) (hS : va_S A s.heap H locs) (hA : ∀ q, wk_A B Lk q → A q) (hn : As.length = n) (hsize : ls.size = nL) (hW : 2 * (F0 m pc ls rest).monitorRoom + (rest.map fun v => v.category).sum ≤ 8) (hcs : cells + 0 ≤ R.cells ∧ slots + 0 ≤ R.slots) (hdg : decode cc pc = .ok (.invokestatic index, 3))
    (kk : ∀ (H1 : Heap) (locs1 : List Loc), wk_H D y B Lk MM H1 → va_S A s.heap H1 locs1 → W p l e R s m args below meth c H1 locs1 cells slots Q (F0 m (pc + 3) ls rest)) (hst : st0 = As.reverse ++ rest := by rfl) : W p l e R s m args below meth c H locs cells slots Q (F0 m pc ls st0) := by
  subst hst
  refine va_callv (va_runS (As := As) (rest := rest) S hM cw ⟨wk_blind, fun U hU hW => ⟨rfl, by rw [hU]; exact hP, hK.moved hW⟩⟩ rfl hn hsize rfl hW hdg hcs) hS (fun q _ h => hA q h) hA (fun u t H1 locs1 ht hvm hw hB hz hk hS => ?_)
  subst hw
  exact kk H1 locs1 (by rw [← ht]; exact hB.1) hS
/-- the nest mate's call -/
theorem wk_cNi {r0 : Int32} (S : CallFix p m c cc nL s args Ts own) (hM : wk_Mi l y0 ws fr lo D y B Lk As M r0 MM) (cw : va_CN R s args own index y0 host bytes maxL ret ws ({ frames := fr, cells := 0, slots := 0, locals := lo }) 0 0 n) (hstt : (Cond.static y0).before args s = true) (hK : wk_K D y s) (hP : wk_H D y B Lk M H) (hS : va_S A s.heap H locs) (hA : ∀ q, wk_A B Lk q → A q) (hn : As.length = n) (hsize : ls.size = nL) (hW : 2 * (F0 m pc ls rest).monitorRoom + (rest.map fun v => v.category).sum ≤ 8) (hcs : cells + 0 ≤ R.cells ∧ slots + 0 ≤ R.slots) (hdg : decode cc pc = .ok (.invokestatic index, 3))
    (kk : ∀ (H1 : Heap) (locs1 : List Loc), wk_H D y B Lk MM H1 → va_S A s.heap H1 locs1 → W p l e R s m args below meth c H1 locs1 cells slots Q (F0 m (pc + 3) ls (.int r0 :: rest))) (hst : st0 = As.reverse ++ rest := by rfl) : W p l e R s m args below meth c H locs cells slots Q (F0 m pc ls st0) := by
  subst hst
  refine va_calli (va_runSN (As := As) (rest := rest) S hM ⟨cw, hstt, trivial⟩ ⟨wk_blind, fun U hU hW => ⟨rfl, by rw [hU]; exact hP, hK.moved hW⟩⟩ rfl hn hsize rfl hW hdg hcs) hS (fun q _ h => hA q h) hA (fun r u t H1 locs1 ht hvm hw hB hz hk hS => ?_)
  obtain ⟨rfl, rfl⟩ := hw
  exact kk H1 locs1 (by rw [← ht]; exact hB.1) hS
/-! a contract out of a walk -/
theorem wk_ofI {r0 : Int32} {ws' : List Cond} (hy : plainName y0.cls = true) (hw : ws = Cond.code y0 bytes maxL ret :: ws') (hown : y0.cls = own) (hret : ret = some .int ∨ ret = some .boolean) (hent : (lg_sl As).length ≤ maxL) (hI : wk_I B Lk) (hL : wk_L Lk)
    (body : ∀ (p : Program) (e : Env) (s : State) (m : MethodId) (args : Array Value) (below : List Frame) (meth : Method) (c : Code) (ls : Array Slot), wk_X p l e ({ frames := fr, cells := 0, slots := 0, locals := lo }) s m args below meth c 0 0 (MQ below (va_Qi (fun (r : Int32) (u : wk_T) => r = r0 ∧ u = MM) (fun u t => wk_W D y B Lk u t) (wk_A B Lk)) args s 0 0 (wk_A B Lk)) bytes maxL own ws D y B Lk (wk_A B Lk) fr lo →
      (ret = some .int → wk_Ri p l e ({ frames := fr, cells := 0, slots := 0, locals := lo }) s m args below meth c 0 0 (MQ below (va_Qi (fun (r : Int32) (u : wk_T) => r = r0 ∧ u = MM) (fun u t => wk_W D y B Lk u t) (wk_A B Lk)) args s 0 0 (wk_A B Lk)) bytes D y B Lk (wk_A B Lk) r0 MM) →
      (ret = some .boolean → wk_Rz p l e ({ frames := fr, cells := 0, slots := 0, locals := lo }) s m args below meth c 0 0 (MQ below (va_Qi (fun (r : Int32) (u : wk_T) => r = r0 ∧ u = MM) (fun u t => wk_W D y B Lk u t) (wk_A B Lk)) args s 0 0 (wk_A B Lk)) bytes D y B Lk (wk_A B Lk) r0 MM) →
      lv_has ls maxL (lv_args 0 As) → wk_H D y B Lk M s.heap → va_S (wk_A B Lk) s.heap s.heap [] → W p l e ({ frames := fr, cells := 0, slots := 0, locals := lo }) s m args below meth c s.heap [] 0 0 (MQ below (va_Qi (fun (r : Int32) (u : wk_T) => r = r0 ∧ u = MM) (fun u t => wk_W D y B Lk u t) (wk_A B Lk)) args s 0 0 (wk_A B Lk)) (F0 m 0 ls [])) :
    wk_Mi l y0 ws fr lo D y B Lk As M r0 MM := by
  refine Met.ofW (cc := bytes) (maxL := maxL) (ret := ret) hy hw ?_
  intro p e s m args below meth c s₁ Bd hml hv
  obtain ⟨rfl, hH, hK⟩ := hv
  have hts := atoms_spec (ws := ws) Bd.pre
  have hfc : s.vm.findClass own = some m.cls := by rw [← hown]; exact findClass_of_methodNamed Bd.named
  have hlocks := Bd.notSynchronized
  have hr := Bd.returns
  rw [lg_entry_eq]
  refine body p e s m As.toArray below meth c _ ⟨⟨Bd.exec, Bd.bytes, hml, hfc, hts⟩, hK, hI, hL, fun _ h => h, Nat.le_refl _, Nat.le_refl _, Nat.le_refl _, Nat.le_refl _⟩ (fun hri v M' H locs pc ls hv hP hS hd => ?_) (fun hri v M' H locs pc ls hz hv hP hS hd => ?_) (lv_entry As hent) hH va_S.rf
  · cases hv
    exact W.iret Bd.exec Bd.bytes (hr.trans hri) (fun t ht hW => ⟨⟨_, _, rfl, ⟨rfl, rfl⟩, by rw [ht]; exact hP, hK.moved hW⟩, hS.F ht⟩) hS.2.2 hd hlocks
  · cases hv
    exact W.zret Bd.exec Bd.bytes (hr.trans hri) (by rcases hz with rfl | rfl <;> rfl) (fun t ht hW => ⟨⟨_, _, rfl, ⟨rfl, rfl⟩, by rw [ht]; exact hP, hK.moved hW⟩, hS.F ht⟩) hS.2.2 hd hlocks
theorem wk_ofL {r0 : Int64} {ws' : List Cond} (hy : plainName y0.cls = true) (hw : ws = Cond.code y0 bytes maxL (some .long) :: ws') (hown : y0.cls = own) (hent : (lg_sl As).length ≤ maxL) (hI : wk_I B Lk) (hL : wk_L Lk)
    (body : ∀ (p : Program) (e : Env) (s : State) (m : MethodId) (args : Array Value) (below : List Frame) (meth : Method) (c : Code) (ls : Array Slot), wk_X p l e ({ frames := fr, cells := 0, slots := 0, locals := lo }) s m args below meth c 0 0 (MQ below (va_Ql (fun (r : Int64) (u : wk_T) => r = r0 ∧ u = MM) (fun u t => wk_W D y B Lk u t) (wk_A B Lk)) args s 0 0 (wk_A B Lk)) bytes maxL own ws D y B Lk (wk_A B Lk) fr lo →
      wk_Rl p l e ({ frames := fr, cells := 0, slots := 0, locals := lo }) s m args below meth c 0 0 (MQ below (va_Ql (fun (r : Int64) (u : wk_T) => r = r0 ∧ u = MM) (fun u t => wk_W D y B Lk u t) (wk_A B Lk)) args s 0 0 (wk_A B Lk)) bytes D y B Lk (wk_A B Lk) r0 MM →
      lv_has ls maxL (lv_args 0 As) → wk_H D y B Lk M s.heap → va_S (wk_A B Lk) s.heap s.heap [] → W p l e ({ frames := fr, cells := 0, slots := 0, locals := lo }) s m args below meth c s.heap [] 0 0 (MQ below (va_Ql (fun (r : Int64) (u : wk_T) => r = r0 ∧ u = MM) (fun u t => wk_W D y B Lk u t) (wk_A B Lk)) args s 0 0 (wk_A B Lk)) (F0 m 0 ls [])) :
    wk_Ml l y0 ws fr lo D y B Lk As M r0 MM := by
  refine Met.ofW (cc := bytes) (maxL := maxL) (ret := some .long) hy hw ?_
  intro p e s m args below meth c s₁ Bd hml hv
  obtain ⟨rfl, hH, hK⟩ := hv
  have hts := atoms_spec (ws := ws) Bd.pre
  have hfc : s.vm.findClass own = some m.cls := by rw [← hown]; exact findClass_of_methodNamed Bd.named
  have hlocks := Bd.notSynchronized
  have hr := Bd.returns
  rw [lg_entry_eq]
  refine body p e s m As.toArray below meth c _ ⟨⟨Bd.exec, Bd.bytes, hml, hfc, hts⟩, hK, hI, hL, fun _ h => h, Nat.le_refl _, Nat.le_refl _, Nat.le_refl _, Nat.le_refl _⟩ (fun v M' H locs pc ls hv hP hS hd => ?_) (lv_entry As hent) hH va_S.rf
  cases hv
  exact W.lret Bd.exec Bd.bytes hr (fun t ht hW => ⟨⟨_, _, rfl, ⟨rfl, rfl⟩, by rw [ht]; exact hP, hK.moved hW⟩, hS.F ht⟩) hS.2.2 hd hlocks
theorem wk_ofV {ws' : List Cond} (hy : plainName y0.cls = true) (hw : ws = Cond.code y0 bytes maxL none :: ws') (hown : y0.cls = own) (hent : (lg_sl As).length ≤ maxL) (hI : wk_I B Lk) (hL : wk_L Lk)
    (body : ∀ (p : Program) (e : Env) (s : State) (m : MethodId) (args : Array Value) (below : List Frame) (meth : Method) (c : Code) (ls : Array Slot), wk_X p l e ({ frames := fr, cells := 0, slots := 0, locals := lo }) s m args below meth c 0 0 (MQ below (va_Qv (fun (u : wk_T) => u = MM) (fun u t => wk_W D y B Lk u t) (wk_A B Lk)) args s 0 0 (wk_A B Lk)) bytes maxL own ws D y B Lk (wk_A B Lk) fr lo →
      wk_Rv p l e ({ frames := fr, cells := 0, slots := 0, locals := lo }) s m args below meth c 0 0 (MQ below (va_Qv (fun (u : wk_T) => u = MM) (fun u t => wk_W D y B Lk u t) (wk_A B Lk)) args s 0 0 (wk_A B Lk)) bytes D y B Lk (wk_A B Lk) MM →
      lv_has ls maxL (lv_args 0 As) → wk_H D y B Lk M s.heap → va_S (wk_A B Lk) s.heap s.heap [] → W p l e ({ frames := fr, cells := 0, slots := 0, locals := lo }) s m args below meth c s.heap [] 0 0 (MQ below (va_Qv (fun (u : wk_T) => u = MM) (fun u t => wk_W D y B Lk u t) (wk_A B Lk)) args s 0 0 (wk_A B Lk)) (F0 m 0 ls [])) :
    wk_Mv l y0 ws fr lo D y B Lk As M MM := by
  refine Met.ofW (cc := bytes) (maxL := maxL) (ret := none) hy hw ?_
  intro p e s m args below meth c s₁ Bd hml hv
  obtain ⟨rfl, hH, hK⟩ := hv
  have hts := atoms_spec (ws := ws) Bd.pre
  have hfc : s.vm.findClass own = some m.cls := by rw [← hown]; exact findClass_of_methodNamed Bd.named
  have hlocks := Bd.notSynchronized
  have hr := Bd.returns
  rw [lg_entry_eq]
  refine body p e s m As.toArray below meth c _ ⟨⟨Bd.exec, Bd.bytes, hml, hfc, hts⟩, hK, hI, hL, fun _ h => h, Nat.le_refl _, Nat.le_refl _, Nat.le_refl _, Nat.le_refl _⟩ (fun M' H locs pc ls hv hP hS hd => ?_) (lv_entry As hent) hH va_S.rf
  cases hv
  exact W.vret Bd.exec Bd.bytes hr (fun t ht hW => ⟨⟨_, rfl, rfl, by rw [ht]; exact hP, hK.moved hW⟩, hS.F ht⟩) hS.2.2 hd hlocks
end WKM
