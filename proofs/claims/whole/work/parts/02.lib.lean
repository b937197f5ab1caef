/-! The Int view: mirrors count in Int; a number of the machine is rr_i of it. -/
def rr_i (a : Int) : Int32 := Int32.ofInt a
def rr_l (a : Int) : Int64 := Int64.ofInt a
abbrev rr_g (a : Int) : Prop := -2147483648 ≤ a ∧ a < 2147483648
abbrev rr_T : Type := Nat → Int → Int
/-- a check: none where it falls -/
def rr_c {α : Type} (c : Prop) [Decidable c] (x : Option α) : Option α := if c then x else none
theorem rr_c_some {α : Type} {c : Prop} [Decidable c] {x : Option α} {r : α} (h : rr_c c x = some r) : c ∧ x = some r := by
  unfold rr_c at h
  by_cases hc : c
  · rw [if_pos hc] at h; exact ⟨hc, h⟩
  · rw [if_neg hc] at h; cases h
theorem rr_c_pos {α : Type} {c : Prop} [Decidable c] {x : Option α} (h : c) : rr_c c x = x := if_pos h
theorem rr_b_some {α β : Type} {x : Option α} {f : α → Option β} {r : β} (h : x.bind f = some r) : ∃ a, x = some a ∧ f a = some r := Option.bind_eq_some_iff.mp h
theorem rr_b_eq {α β : Type} {x : Option α} {f : α → Option β} {a : α} (h : x = some a) : x.bind f = f a := by rw [h]; rfl
/-- a row with one number changed -/
def rr_u (f : Int → Int) (i v : Int) : Int → Int := fun j => if j = i then v else f j
/-- a store into row k at place i; a store of the number k; one of several states; fields below n of the first -/
def rr_s (σ : rr_T) (k : Nat) (i v : Int) : rr_T := fun k' => if k' = k then rr_u (σ k') i v else σ k'
def rr_t (σ : rr_T) (k : Nat) (v : Int) : rr_T := fun k' => if k' = k then (fun _ => v) else σ k'
def rr_z (S : Nat → rr_T) (k : Nat) (τ : rr_T) : Nat → rr_T := fun k' => if k' = k then τ else S k'
def rr_m (n : Nat) (a b : rr_T) : rr_T := fun k => if k < n then a k else b k
/-- a row as the machine's array holds it -/
def rr_a (f : Int → Int) : Nat → Int32 := fun j => rr_i (f (j : Int))
theorem rr_i_to (x : Int32) : rr_i x.toInt = x := Int32.ofInt_toInt x
theorem rr_to_g (x : Int32) : rr_g x.toInt := ⟨by have := Int32.le_toInt x; omega, by have := Int32.toInt_lt x; omega⟩
theorem rr_to_i {a : Int} (h : rr_g a) : (rr_i a).toInt = a := Int32.toInt_ofInt_of_le (by have := h.1; omega) (by have := h.2; omega)
theorem rr_i_lt {a b : Int} (ha : rr_g a) (hb : rr_g b) : rr_i a < rr_i b ↔ a < b := by rw [Int32.lt_iff_toInt_lt, rr_to_i ha, rr_to_i hb]
theorem rr_i_le {a b : Int} (ha : rr_g a) (hb : rr_g b) : rr_i a ≤ rr_i b ↔ a ≤ b := by rw [Int32.le_iff_toInt_le, rr_to_i ha, rr_to_i hb]
theorem rr_i_eq {a b : Int} (ha : rr_g a) (hb : rr_g b) : rr_i a = rr_i b ↔ a = b := by rw [← Int32.toInt_inj, rr_to_i ha, rr_to_i hb]
theorem rr_i_add (a b : Int) : rr_i a + rr_i b = rr_i (a + b) := (Int32.ofInt_add a b).symm
theorem rr_i_sub (a b : Int) : rr_i a - rr_i b = rr_i (a - b) := (Int32.ofInt_sub a b).symm
theorem rr_i_mul (a b : Int) : rr_i a * rr_i b = rr_i (a * b) := (Int32.ofInt_mul a b).symm
theorem rr_l_add (a b : Int) : rr_l a + rr_l b = rr_l (a + b) := (Int64.ofInt_add a b).symm
theorem rr_l_mul (a b : Int) : rr_l a * rr_l b = rr_l (a * b) := (Int64.ofInt_mul a b).symm
theorem rr_i_l {a : Int} (h : rr_g a) : (rr_i a).toInt64 = rr_l a := by
  have h1 : (rr_i a).toInt64 = Int64.ofInt (rr_i a).toInt := (Int64.ofInt_int32ToInt (rr_i a)).symm
  rw [h1, rr_to_i h]; rfl
theorem rr_i_nat (n : Nat) : rr_i (n : Int) = nI n := rfl
theorem rr_i_div {a b : Int} (h : 0 ≤ a ∧ a < 2147483648 ∧ 0 < b ∧ b < 2147483648) : rr_i a / rr_i b = rr_i (a / b) := by
  obtain ⟨h1, h2, h3, h4⟩ := h
  obtain ⟨n, rfl⟩ := Int.eq_ofNat_of_zero_le h1
  obtain ⟨d, rfl⟩ := Int.eq_ofNat_of_zero_le (Int.le_of_lt h3)
  rw [rr_i_nat, rr_i_nat, pk_div (by omega) (by omega) (by omega), ← rr_i_nat]
  rfl
theorem rr_i_rem {a b : Int} (h : 0 ≤ a ∧ a < 2147483648 ∧ 0 < b ∧ b < 2147483648) : rr_i a - rr_i a / rr_i b * rr_i b = rr_i (a % b) := by
  obtain ⟨h1, h2, h3, h4⟩ := h
  obtain ⟨n, rfl⟩ := Int.eq_ofNat_of_zero_le h1
  obtain ⟨d, rfl⟩ := Int.eq_ofNat_of_zero_le (Int.le_of_lt h3)
  rw [rr_i_nat, rr_i_nat, pk_rem (by omega) (by omega) (by omega), ← rr_i_nat]
  rfl
theorem rr_i_ne0 {a : Int} (h : 0 < a ∧ a < 2147483648) : ¬ rr_i a = 0 := by
  intro h2
  have h3 : (rr_i a).toInt = a := rr_to_i ⟨by omega, by omega⟩
  rw [h2] at h3
  have h4 : (0 : Int32).toInt = 0 := by decide
  omega
theorem rr_clamp {i : Int} (h : 0 ≤ i ∧ i < 2147483648) : (rr_i i).toNatClampNeg = i.toNat := by
  show (rr_i i).toInt.toNat = i.toNat
  rw [rr_to_i ⟨by omega, by omega⟩]
theorem rr_in {i : Int} {n : Nat} (h : 0 ≤ i ∧ i < (n : Int)) (hn : n < 2147483648) : vp_in (rr_i i) n := by
  rw [vp_in_iff, rr_to_i ⟨by omega, by omega⟩]
  exact h
theorem rr_a_get (f : Int → Int) {i : Int} (h : 0 ≤ i ∧ i < 2147483648) : rr_a f (rr_i i).toNatClampNeg = rr_i (f i) := by
  rw [rr_clamp h]
  show rr_i (f (i.toNat : Int)) = rr_i (f i)
  rw [Int.toNat_of_nonneg h.1]
theorem rr_a_upd (f : Int → Int) {i : Int} (v : Int) (h : 0 ≤ i ∧ i < 2147483648) : upd (rr_a f) (rr_i i).toNatClampNeg (rr_i v) = rr_a (rr_u f i v) := by
  rw [rr_clamp h]
  funext j
  show (if j = i.toNat then rr_i v else rr_i (f (j : Int))) = rr_i (if (j : Int) = i then v else f (j : Int))
  by_cases hj : j = i.toNat
  · rw [if_pos hj, if_pos (by omega)]
  · rw [if_neg hj, if_neg (by omega)]
/-! the worlds' tables: classes, the three kinds of arrays, what nest mates may call -/
abbrev rr_G : Type := va_G × ClassId × ClassId × ClassId
def rr_K (g : rr_G) (U : State) : Prop := va_K g.1 vwCl [(g.2.1, .int), (g.2.2.1, .boolean), (g.2.2.2, .object "RoomRing$Stock")] U ∧ va_AO "RoomRing$Stock" U ∧ va_Nw (.methodLinkNest RX1 11 yX3_init RX4) U ∧ va_Nw (.methodLinkNest RX0 21 yX3_init RX4) U ∧ va_Nw (.methodLinkNest RX4 28 yX2_init RX4) U ∧ va_Nw (.methodLinkNest RX3 60 yX4_isName RX4) U ∧ va_Nw (.methodLinkNest RX3 64 yX4_isWeight RX4) U ∧ va_Nw (.methodLinkNest RX3 70 yX4_isKey RX4) U
theorem rr_K_warm {g : rr_G} {s U : State} (hW : s.WarmedH U.vm) (h : rr_K g s) : rr_K g U := ⟨va_K.moved hW.alike h.1, va_AO.moved hW.alike h.2.1, va_Nw.warmM hW h.2.2.1, va_Nw.warmM hW h.2.2.2.1, va_Nw.warmM hW h.2.2.2.2.1, va_Nw.warmM hW h.2.2.2.2.2.1, va_Nw.warmM hW h.2.2.2.2.2.2.1, va_Nw.warmM hW h.2.2.2.2.2.2.2⟩
theorem rr_K_same {g : rr_G} {u U : State} (hv : u.vm = U.vm) (h : rr_K g u) : rr_K g U := ⟨va_K.moved (by rw [hv]; exact Vm.Alike.refl _) h.1, va_AO.moved (by rw [hv]; exact Vm.Alike.refl _) h.2.1, va_Nw.same rfl hv h.2.2.1, va_Nw.same rfl hv h.2.2.2.1, va_Nw.same rfl hv h.2.2.2.2.1, va_Nw.same rfl hv h.2.2.2.2.2.1, va_Nw.same rfl hv h.2.2.2.2.2.2.1, va_Nw.same rfl hv h.2.2.2.2.2.2.2⟩
/-- the start of a method that only reads; of one that writes -/
def rr_R (g : rr_G) (av : List Value) (w : va_W) : Array Value → State → Prop := va_Pc av (fun U => va_P g.1 vwCl w U.heap ∧ rr_K g U)
def rr_P (g : rr_G) (av : List Value) (w : va_W) (sz : Nat) : Array Value → State → Prop := va_Pc av (fun U => U.heap.size = sz ∧ va_P g.1 vwCl w U.heap ∧ rr_K g U ∧ va_D (fun _ => True) w)
theorem rr_R_blind {g : rr_G} {av : List Value} {w : va_W} : FrameBlind (rr_R g av w) := fun a U f mk q => ⟨q.1, q.2.1, rr_K_same (u := U) (U := U.calling f mk a) rfl q.2.2⟩
theorem rr_P_blind {g : rr_G} {av : List Value} {w : va_W} {sz : Nat} : FrameBlind (rr_P g av w sz) := fun a U f mk q => ⟨q.1, q.2.1, q.2.2.1, rr_K_same (u := U) (U := U.calling f mk a) rfl q.2.2.2.1, q.2.2.2.2⟩
theorem rr_R_pre {g : rr_G} {av : List Value} {w : va_W} {s : State} {H : Heap} (hK : rr_K g s) (hP : va_P g.1 vwCl w H) : ∀ U : State, U.heap = H → s.WarmedH U.vm → rr_R g av w av.toArray U := fun U hU hW => ⟨rfl, by rw [hU]; exact hP, rr_K_warm hW hK⟩
theorem rr_P_pre {g : rr_G} {av : List Value} {w : va_W} {s : State} {H : Heap} {A : Nat → Prop} (hK : rr_K g s) (hP : va_P g.1 vwCl w H) (hD : va_D A w) : ∀ U : State, U.heap = H → s.WarmedH U.vm → rr_P g av w H.size av.toArray U := fun U hU hW => ⟨rfl, by rw [hU], by rw [hU]; exact hP, rr_K_warm hW hK, hD.weaken (fun _ _ _ _ => trivial)⟩
/-- a method that only reads: from its entry -/
theorem rr_ro {l : Launch} {y : MethodName} {ws ws' : List Cond} {rm : Room} {cc : ByteArray} {maxL : Nat} {ret : Option FieldType} {g : rr_G} {av : List Value} {w : va_W} {Qc : Array Value → State → Outcome → State → Prop} (hy : plainName y.cls = true) (hw : ws = Cond.code y cc maxL ret :: ws') (hlen : (lg_sl av).length ≤ maxL)
    (kk : ∀ (p : Program) (e : Env) (s : State) (m : MethodId) (below : List Frame) (meth : Method) (c : Code) (ls : Array Slot), p.tables.exec = Jvm.exec → c.code = cc → meth.sig.returnType = ret → c.maxLocals = maxL → s.vm.findClass y.cls = some m.cls → (∀ q ∈ ws, q.before av.toArray s = true) → meth.locks = false → rr_K g s → va_P g.1 vwCl w s.heap → lv_has ls maxL (lv_args 0 av) → W p l e rm s m av.toArray below meth c s.heap [] 0 0 (MQ below Qc av.toArray s 0 0 (fun _ => False)) (F0 m 0 ls [])) : Met l y ws rm (rr_R g av w) Qc 0 0 (fun _ => False) := by
  refine Met.ofW (cc := cc) (maxL := maxL) (ret := ret) hy hw ?_
  intro p e s m args below meth c s₁ B hml hv
  obtain ⟨rfl, hP, hK⟩ := hv
  have hl := lv_entry av (n := maxL) hlen
  rw [lg_entry_eq]
  exact kk p e s m below meth c _ B.exec B.bytes B.returns hml (findClass_of_methodNamed B.named) (atoms_spec (ws := ws) B.pre) B.notSynchronized hK hP hl
/-- a method that writes: from its entry -/
theorem rr_rw {l : Launch} {y : MethodName} {ws ws' : List Cond} {rm : Room} {cc : ByteArray} {maxL mc ms : Nat} {ret : Option FieldType} {g : rr_G} {av : List Value} {w : va_W} {sz : Nat} (Qc : (Nat → Prop) → Array Value → State → Outcome → State → Prop) (hy : plainName y.cls = true) (hw : ws = Cond.code y cc maxL ret :: ws') (hlen : (lg_sl av).length ≤ maxL)
    (kk : ∀ (p : Program) (e : Env) (s : State) (m : MethodId) (below : List Frame) (meth : Method) (c : Code) (ls : Array Slot) (A : Nat → Prop), p.tables.exec = Jvm.exec → c.code = cc → meth.sig.returnType = ret → c.maxLocals = maxL → s.vm.findClass y.cls = some m.cls → (∀ q ∈ ws, q.before av.toArray s = true) → meth.locks = false → (y.name = meth.name) → rr_K g s → (∀ q : Nat, s.heap.size ≤ q → A q) → va_P g.1 vwCl w s.heap → va_D A w → va_S A s.heap s.heap [] → lv_has ls maxL (lv_args 0 av) → W p l e rm s m av.toArray below meth c s.heap [] 0 0 (MQ below (Qc A) av.toArray s mc ms A) (F0 m 0 ls [])) : Met l y ws rm (rr_P g av w sz) (Qc (va_A w sz)) mc ms (va_A w sz) := by
  refine Met.ofW (cc := cc) (maxL := maxL) (ret := ret) hy hw ?_
  intro p e s m args below meth c s₁ B hml hv
  obtain ⟨rfl, hsz, hP, hK, hD0⟩ := hv
  subst hsz
  have hl := lv_entry av (n := maxL) hlen
  rw [lg_entry_eq]
  exact kk p e s m below meth c _ _ B.exec B.bytes B.returns hml (findClass_of_methodNamed B.named) (atoms_spec (ws := ws) B.pre) B.notSynchronized (name_of_methodNamed B.named B.method).1.symm hK (fun q h => Or.inr h) hP (hD0.self (sz := s.heap.size)) va_S.rf hl
/-- the end of one that writes: the answer, and the world behind it -/
abbrev rr_Qi (g : rr_G) (r : Int) (w : va_W) (A : Nat → Prop) : Array Value → State → Outcome → State → Prop := va_Qi (fun (x : Int32) (_ : Unit) => x = rr_i r) (fun _ t => va_P g.1 vwCl w t.heap ∧ va_D A w) A
abbrev rr_Qv (g : rr_G) (w : va_W) (A : Nat → Prop) : Array Value → State → Outcome → State → Prop := va_Qv (fun (_ : Unit) => True) (fun _ t => va_P g.1 vwCl w t.heap ∧ va_D A w) A
abbrev rr_Ql (g : rr_G) (r : Int) (w : va_W) (A : Nat → Prop) : Array Value → State → Outcome → State → Prop := va_Ql (fun (x : Int64) (_ : Unit) => x = rr_l r) (fun _ t => va_P g.1 vwCl w t.heap ∧ va_D A w) A
section RW
variable {p : Program} {l : Launch} {e : Env} {R : Room} {s : State} {m : MethodId} {args : Array Value} {below : List Frame} {meth : Method} {c : Code} {H : Heap} {locs : List Loc} {cells slots : Nat} {Q : State → Prop} {cc : ByteArray} {pc : Nat} {ls : Array Slot} {rest : List Value}
theorem rr_iret {g : rr_G} {r : Int} {w : va_W} {A : Nat → Prop} (hx : p.tables.exec = Jvm.exec) (hb : c.code = cc) (hr : meth.sig.returnType = some .int) (hlk : meth.locks = false) (hP : va_P g.1 vwCl w H) (hD : va_D A w) (hS : va_S A s.heap H locs) (hdg : decode cc pc = .ok (.ireturn, 1)) : W p l e R s m args below meth c H locs cells slots (MQ below (rr_Qi g r w A) args s cells slots A) (F0 m pc ls [.int (rr_i r)]) :=
  W.iret (v := rr_i r) hx hb hr (fun t ht _ => ⟨⟨rr_i r, (), rfl, rfl, by rw [ht]; exact hP, hD⟩, hS.F ht⟩) hS.2.2 hdg hlk
theorem rr_lret {g : rr_G} {r : Int} {w : va_W} {A : Nat → Prop} (hx : p.tables.exec = Jvm.exec) (hb : c.code = cc) (hr : meth.sig.returnType = some .long) (hlk : meth.locks = false) (hP : va_P g.1 vwCl w H) (hD : va_D A w) (hS : va_S A s.heap H locs) (hdg : decode cc pc = .ok (.lreturn, 1)) : W p l e R s m args below meth c H locs cells slots (MQ below (rr_Ql g r w A) args s cells slots A) (F0 m pc ls [.long (rr_l r)]) :=
  W.lret (v := rr_l r) hx hb hr (fun t ht _ => ⟨⟨rr_l r, (), rfl, rfl, by rw [ht]; exact hP, hD⟩, hS.F ht⟩) hS.2.2 hdg hlk
theorem rr_vret {g : rr_G} {w : va_W} {A : Nat → Prop} (hx : p.tables.exec = Jvm.exec) (hb : c.code = cc) (hr : meth.sig.returnType = none) (hlk : meth.locks = false) (hP : va_P g.1 vwCl w H) (hD : va_D A w) (hS : va_S A s.heap H locs) (hdg : decode cc pc = .ok (.return_, 1)) : W p l e R s m args below meth c H locs cells slots (MQ below (rr_Qv g w A) args s cells slots A) (F0 m pc ls []) :=
  W.vret hx hb hr (fun t ht _ => ⟨⟨(), rfl, trivial, by rw [ht]; exact hP, hD⟩, hS.F ht⟩) hS.2.2 hdg hlk
theorem rr_narrow {r : Int} (h : r = 0 ∨ r = 1) : narrow .boolean (.int (rr_i r)) = .int (rr_i r) := by rcases h with rfl | rfl <;> decide +kernel
theorem rr_zret {g : rr_G} {r : Int} {w : va_W} {A : Nat → Prop} (hx : p.tables.exec = Jvm.exec) (hb : c.code = cc) (hr : meth.sig.returnType = some .boolean) (hlk : meth.locks = false) (h01 : r = 0 ∨ r = 1) (hP : va_P g.1 vwCl w H) (hD : va_D A w) (hS : va_S A s.heap H locs) (hdg : decode cc pc = .ok (.ireturn, 1)) : W p l e R s m args below meth c H locs cells slots (MQ below (rr_Qi g r w A) args s cells slots A) (F0 m pc ls [.int (rr_i r)]) :=
  W.zret (v := rr_i r) (ty := .boolean) hx hb hr (rr_narrow h01) (fun t ht _ => ⟨⟨rr_i r, (), rfl, rfl, by rw [ht]; exact hP, hD⟩, hS.F ht⟩) hS.2.2 hdg hlk
/-- the ends of one that only reads -/
theorem rr_irt {r : Int} (hx : p.tables.exec = Jvm.exec) (hb : c.code = cc) (hr : meth.sig.returnType = some .int) (hlk : meth.locks = false) (hdg : decode cc pc = .ok (.ireturn, 1)) : W p l e R s m args below meth c s.heap [] 0 0 (MQ below (vp_Si (fun x => x = rr_i r)) args s 0 0 (fun _ => False)) (F0 m pc ls [.int (rr_i r)]) :=
  W.iret (v := rr_i r) hx hb hr (fun t ht _ => ⟨rr_i r, rfl, rfl, ht⟩) (fun _ h => by cases h) hdg hlk
theorem rr_lrt {r : Int} (hx : p.tables.exec = Jvm.exec) (hb : c.code = cc) (hr : meth.sig.returnType = some .long) (hlk : meth.locks = false) (hdg : decode cc pc = .ok (.lreturn, 1)) : W p l e R s m args below meth c s.heap [] 0 0 (MQ below (vp_Sl (fun x => x = rr_l r)) args s 0 0 (fun _ => False)) (F0 m pc ls [.long (rr_l r)]) :=
  W.lret (v := rr_l r) hx hb hr (fun t ht _ => ⟨rr_l r, rfl, rfl, ht⟩) (fun _ h => by cases h) hdg hlk
theorem rr_zrt {r : Int} (hx : p.tables.exec = Jvm.exec) (hb : c.code = cc) (hr : meth.sig.returnType = some .boolean) (hlk : meth.locks = false) (h01 : r = 0 ∨ r = 1) (hdg : decode cc pc = .ok (.ireturn, 1)) : W p l e R s m args below meth c s.heap [] 0 0 (MQ below (vp_Si (fun x => x = rr_i r)) args s 0 0 (fun _ => False)) (F0 m pc ls [.int (rr_i r)]) :=
  W.zret (v := rr_i r) (ty := .boolean) hx hb hr (rr_narrow h01) (fun t ht _ => ⟨rr_i r, rfl, rfl, ht⟩) (fun _ h => by cases h) hdg hlk
/-- constants -/
theorem rr_iconst {n : Int} (hx : p.tables.exec = Jvm.exec) (hb : c.code = cc) (hdg : decode cc pc = .ok (.iconst n, 1)) (k : W p l e R s m args below meth c H locs cells slots Q (F0 m (pc + 1) ls (.int (rr_i n) :: rest))) : W p l e R s m args below meth c H locs cells slots Q (F0 m pc ls rest) := lv_iconst (v := rr_i n) hx hb hdg rfl k
theorem rr_bipush {n : Int} (hx : p.tables.exec = Jvm.exec) (hb : c.code = cc) (hdg : decode cc pc = .ok (.bipush n, 2)) (hv : (Int8.ofInt n).toInt32 = rr_i n) (k : W p l e R s m args below meth c H locs cells slots Q (F0 m (pc + 2) ls (.int (rr_i n) :: rest))) : W p l e R s m args below meth c H locs cells slots Q (F0 m pc ls rest) := lv_bipush (v := rr_i n) hx hb hdg hv k
theorem rr_sipush {n : Int} (hx : p.tables.exec = Jvm.exec) (hb : c.code = cc) (hdg : decode cc pc = .ok (.sipush n, 3)) (hv : (Int16.ofInt n).toInt32 = rr_i n) (k : W p l e R s m args below meth c H locs cells slots Q (F0 m (pc + 3) ls (.int (rr_i n) :: rest))) : W p l e R s m args below meth c H locs cells slots Q (F0 m pc ls rest) := lv_sipush (v := rr_i n) hx hb hdg hv k
theorem rr_ldc2 {own : String} {index : Nat} {n : Int} (hx : p.tables.exec = Jvm.exec) (hb : c.code = cc) (hown : s.vm.findClass own = some m.cls) (hc : (Jvm.Cond.constantLong own index (rr_l n)).before args s = true) (hdg : decode cc pc = .ok (.ldc2_w index, 3)) (k : W p l e R s m args below meth c H locs cells slots Q (F0 m (pc + 3) ls (.long (rr_l n) :: rest))) : W p l e R s m args below meth c H locs cells slots Q (F0 m pc ls rest) := lv_ldc2 hx hb hown hc hdg k
/-- arithmetic -/
theorem rr_iadd {a b : Int} (hx : p.tables.exec = Jvm.exec) (hb : c.code = cc) (hdg : decode cc pc = .ok (.iadd, 1)) (k : W p l e R s m args below meth c H locs cells slots Q (F0 m (pc + 1) ls (.int (rr_i (a + b)) :: rest))) : W p l e R s m args below meth c H locs cells slots Q (F0 m pc ls (.int (rr_i b) :: .int (rr_i a) :: rest)) := lv_iadd hx hb hdg (by rw [rr_i_add]; exact k)
theorem rr_isub {a b : Int} (hx : p.tables.exec = Jvm.exec) (hb : c.code = cc) (hdg : decode cc pc = .ok (.isub, 1)) (k : W p l e R s m args below meth c H locs cells slots Q (F0 m (pc + 1) ls (.int (rr_i (a - b)) :: rest))) : W p l e R s m args below meth c H locs cells slots Q (F0 m pc ls (.int (rr_i b) :: .int (rr_i a) :: rest)) := lv_isub hx hb hdg (by rw [rr_i_sub]; exact k)
theorem rr_imul {a b : Int} (hx : p.tables.exec = Jvm.exec) (hb : c.code = cc) (hdg : decode cc pc = .ok (.imul, 1)) (k : W p l e R s m args below meth c H locs cells slots Q (F0 m (pc + 1) ls (.int (rr_i (a * b)) :: rest))) : W p l e R s m args below meth c H locs cells slots Q (F0 m pc ls (.int (rr_i b) :: .int (rr_i a) :: rest)) := lv_imul hx hb hdg (by rw [rr_i_mul]; exact k)
theorem rr_idiv {a b : Int} (hx : p.tables.exec = Jvm.exec) (hb : c.code = cc) (hdg : decode cc pc = .ok (.idiv, 1)) (h : 0 ≤ a ∧ a < 2147483648 ∧ 0 < b ∧ b < 2147483648) (k : W p l e R s m args below meth c H locs cells slots Q (F0 m (pc + 1) ls (.int (rr_i (a / b)) :: rest))) : W p l e R s m args below meth c H locs cells slots Q (F0 m pc ls (.int (rr_i b) :: .int (rr_i a) :: rest)) := lv_idiv hx hb hdg (rr_i_ne0 h.2.2) (by rw [rr_i_div h]; exact k)
theorem rr_irem {a b : Int} (hx : p.tables.exec = Jvm.exec) (hb : c.code = cc) (hdg : decode cc pc = .ok (.irem, 1)) (h : 0 ≤ a ∧ a < 2147483648 ∧ 0 < b ∧ b < 2147483648) (k : W p l e R s m args below meth c H locs cells slots Q (F0 m (pc + 1) ls (.int (rr_i (a % b)) :: rest))) : W p l e R s m args below meth c H locs cells slots Q (F0 m pc ls (.int (rr_i b) :: .int (rr_i a) :: rest)) := lv_irem hx hb hdg (rr_i_ne0 h.2.2) (by rw [rr_i_rem h]; exact k)
theorem rr_i2l {a : Int} (hx : p.tables.exec = Jvm.exec) (hb : c.code = cc) (hdg : decode cc pc = .ok (.i2l, 1)) (h : rr_g a) (k : W p l e R s m args below meth c H locs cells slots Q (F0 m (pc + 1) ls (.long (rr_l a) :: rest))) : W p l e R s m args below meth c H locs cells slots Q (F0 m pc ls (.int (rr_i a) :: rest)) := lv_i2l hx hb hdg (rr_i_l h) k
theorem rr_ladd {a b : Int} (hx : p.tables.exec = Jvm.exec) (hb : c.code = cc) (hdg : decode cc pc = .ok (.ladd, 1)) (k : W p l e R s m args below meth c H locs cells slots Q (F0 m (pc + 1) ls (.long (rr_l (a + b)) :: rest))) : W p l e R s m args below meth c H locs cells slots Q (F0 m pc ls (.long (rr_l b) :: .long (rr_l a) :: rest)) := lv_ladd hx hb hdg (by rw [rr_l_add]; exact k)
theorem rr_lmul {a b : Int} (hx : p.tables.exec = Jvm.exec) (hb : c.code = cc) (hdg : decode cc pc = .ok (.lmul, 1)) (k : W p l e R s m args below meth c H locs cells slots Q (F0 m (pc + 1) ls (.long (rr_l (a * b)) :: rest))) : W p l e R s m args below meth c H locs cells slots Q (F0 m pc ls (.long (rr_l b) :: .long (rr_l a) :: rest)) := lv_lmul hx hb hdg (by rw [rr_l_mul]; exact k)
theorem rr_iinc {i nL k : Nat} {n : Int} {a : Int} {lv lv' : List (Nat × Value)} (hx : p.tables.exec = Jvm.exec) (hb : c.code = cc) (hdg : decode cc pc = .ok (.iinc i n, 3)) (h : lv_has ls nL lv) (hk : lv[k]? = some (i, .int (rr_i a))) (hn : i < nL) (hl : (i, Value.int (rr_i (a + n))) :: lv.filter (fun q => !(q.1 == i) && !(q.1 + 1 == i && q.2.category == 2)) = lv') (kk : ∀ ls' : Array Slot, lv_has ls' nL lv' → W p l e R s m args below meth c H locs cells slots Q (F0 m (pc + 3) ls' rest)) : W p l e R s m args below meth c H locs cells slots Q (F0 m pc ls rest) := lv_iinc (v := rr_i (a + n)) hx hb hdg h hk (rr_i_add a n) hn hl kk
theorem rr_icmp_lt {a b : Int} {off : Int} {tgt : Nat} (hx : p.tables.exec = Jvm.exec) (hb : c.code = cc) (hdg : decode cc pc = .ok (.if_icmp .lt off, 3)) (ht : (pc : Int) + off = (tgt : Int)) (ha : rr_g a) (hb2 : rr_g b) (kt : a < b → W p l e R s m args below meth c H locs cells slots Q (F0 m tgt ls rest)) (kf : ¬ a < b → W p l e R s m args below meth c H locs cells slots Q (F0 m (pc + 3) ls rest)) : W p l e R s m args below meth c H locs cells slots Q (F0 m pc ls (.int (rr_i b) :: .int (rr_i a) :: rest)) := lv_icmp_lt hx hb hdg ht (fun h => kt ((rr_i_lt ha hb2).mp h)) (fun h => kf (fun h2 => h ((rr_i_lt ha hb2).mpr h2)))
theorem rr_icmp_ge {a b : Int} {off : Int} {tgt : Nat} (hx : p.tables.exec = Jvm.exec) (hb : c.code = cc) (hdg : decode cc pc = .ok (.if_icmp .ge off, 3)) (ht : (pc : Int) + off = (tgt : Int)) (ha : rr_g a) (hb2 : rr_g b) (kt : b ≤ a → W p l e R s m args below meth c H locs cells slots Q (F0 m tgt ls rest)) (kf : ¬ b ≤ a → W p l e R s m args below meth c H locs cells slots Q (F0 m (pc + 3) ls rest)) : W p l e R s m args below meth c H locs cells slots Q (F0 m pc ls (.int (rr_i b) :: .int (rr_i a) :: rest)) := lv_icmp_ge hx hb hdg ht (fun h => kt ((rr_i_le hb2 ha).mp h)) (fun h => kf (fun h2 => h ((rr_i_le hb2 ha).mpr h2)))
theorem rr_icmp_gt {a b : Int} {off : Int} {tgt : Nat} (hx : p.tables.exec = Jvm.exec) (hb : c.code = cc) (hdg : decode cc pc = .ok (.if_icmp .gt off, 3)) (ht : (pc : Int) + off = (tgt : Int)) (ha : rr_g a) (hb2 : rr_g b) (kt : b < a → W p l e R s m args below meth c H locs cells slots Q (F0 m tgt ls rest)) (kf : ¬ b < a → W p l e R s m args below meth c H locs cells slots Q (F0 m (pc + 3) ls rest)) : W p l e R s m args below meth c H locs cells slots Q (F0 m pc ls (.int (rr_i b) :: .int (rr_i a) :: rest)) := lv_icmp_gt hx hb hdg ht (fun h => kt ((rr_i_lt hb2 ha).mp h)) (fun h => kf (fun h2 => h ((rr_i_lt hb2 ha).mpr h2)))
theorem rr_icmp_le {a b : Int} {off : Int} {tgt : Nat} (hx : p.tables.exec = Jvm.exec) (hb : c.code = cc) (hdg : decode cc pc = .ok (.if_icmp .le off, 3)) (ht : (pc : Int) + off = (tgt : Int)) (ha : rr_g a) (hb2 : rr_g b) (kt : a ≤ b → W p l e R s m args below meth c H locs cells slots Q (F0 m tgt ls rest)) (kf : ¬ a ≤ b → W p l e R s m args below meth c H locs cells slots Q (F0 m (pc + 3) ls rest)) : W p l e R s m args below meth c H locs cells slots Q (F0 m pc ls (.int (rr_i b) :: .int (rr_i a) :: rest)) := lv_icmp_le hx hb hdg ht (fun h => kt ((rr_i_le ha hb2).mp h)) (fun h => kf (fun h2 => h ((rr_i_le ha hb2).mpr h2)))
theorem rr_icmp_eq {a b : Int} {off : Int} {tgt : Nat} (hx : p.tables.exec = Jvm.exec) (hb : c.code = cc) (hdg : decode cc pc = .ok (.if_icmp .eq off, 3)) (ht : (pc : Int) + off = (tgt : Int)) (ha : rr_g a) (hb2 : rr_g b) (kt : a = b → W p l e R s m args below meth c H locs cells slots Q (F0 m tgt ls rest)) (kf : ¬ a = b → W p l e R s m args below meth c H locs cells slots Q (F0 m (pc + 3) ls rest)) : W p l e R s m args below meth c H locs cells slots Q (F0 m pc ls (.int (rr_i b) :: .int (rr_i a) :: rest)) := lv_icmp_eq hx hb hdg ht (fun h => kt ((rr_i_eq ha hb2).mp h)) (fun h => kf (fun h2 => h ((rr_i_eq ha hb2).mpr h2)))
theorem rr_icmp_ne {a b : Int} {off : Int} {tgt : Nat} (hx : p.tables.exec = Jvm.exec) (hb : c.code = cc) (hdg : decode cc pc = .ok (.if_icmp .ne off, 3)) (ht : (pc : Int) + off = (tgt : Int)) (ha : rr_g a) (hb2 : rr_g b) (kt : ¬ a = b → W p l e R s m args below meth c H locs cells slots Q (F0 m tgt ls rest)) (kf : a = b → W p l e R s m args below meth c H locs cells slots Q (F0 m (pc + 3) ls rest)) : W p l e R s m args below meth c H locs cells slots Q (F0 m pc ls (.int (rr_i b) :: .int (rr_i a) :: rest)) := lv_icmp_ne hx hb hdg ht (fun h => kt (fun h2 => h ((rr_i_eq ha hb2).mpr h2))) (fun h => kf ((rr_i_eq ha hb2).mp h))
theorem rr_g0 : rr_g 0 := by decide
theorem rr_if_lt {a : Int} {off : Int} {tgt : Nat} (hx : p.tables.exec = Jvm.exec) (hb : c.code = cc) (hdg : decode cc pc = .ok (.ifCond .lt off, 3)) (ht : (pc : Int) + off = (tgt : Int)) (ha : rr_g a) (kt : a < 0 → W p l e R s m args below meth c H locs cells slots Q (F0 m tgt ls rest)) (kf : ¬ a < 0 → W p l e R s m args below meth c H locs cells slots Q (F0 m (pc + 3) ls rest)) : W p l e R s m args below meth c H locs cells slots Q (F0 m pc ls (.int (rr_i a) :: rest)) := lv_if_lt hx hb hdg ht (fun h => kt ((rr_i_lt ha rr_g0).mp h)) (fun h => kf (fun h2 => h ((rr_i_lt ha rr_g0).mpr h2)))
theorem rr_if_ge {a : Int} {off : Int} {tgt : Nat} (hx : p.tables.exec = Jvm.exec) (hb : c.code = cc) (hdg : decode cc pc = .ok (.ifCond .ge off, 3)) (ht : (pc : Int) + off = (tgt : Int)) (ha : rr_g a) (kt : 0 ≤ a → W p l e R s m args below meth c H locs cells slots Q (F0 m tgt ls rest)) (kf : ¬ 0 ≤ a → W p l e R s m args below meth c H locs cells slots Q (F0 m (pc + 3) ls rest)) : W p l e R s m args below meth c H locs cells slots Q (F0 m pc ls (.int (rr_i a) :: rest)) := lv_if_ge hx hb hdg ht (fun h => kt ((rr_i_le rr_g0 ha).mp h)) (fun h => kf (fun h2 => h ((rr_i_le rr_g0 ha).mpr h2)))
theorem rr_if_gt {a : Int} {off : Int} {tgt : Nat} (hx : p.tables.exec = Jvm.exec) (hb : c.code = cc) (hdg : decode cc pc = .ok (.ifCond .gt off, 3)) (ht : (pc : Int) + off = (tgt : Int)) (ha : rr_g a) (kt : 0 < a → W p l e R s m args below meth c H locs cells slots Q (F0 m tgt ls rest)) (kf : ¬ 0 < a → W p l e R s m args below meth c H locs cells slots Q (F0 m (pc + 3) ls rest)) : W p l e R s m args below meth c H locs cells slots Q (F0 m pc ls (.int (rr_i a) :: rest)) := lv_if_gt hx hb hdg ht (fun h => kt ((rr_i_lt rr_g0 ha).mp h)) (fun h => kf (fun h2 => h ((rr_i_lt rr_g0 ha).mpr h2)))
theorem rr_if_le {a : Int} {off : Int} {tgt : Nat} (hx : p.tables.exec = Jvm.exec) (hb : c.code = cc) (hdg : decode cc pc = .ok (.ifCond .le off, 3)) (ht : (pc : Int) + off = (tgt : Int)) (ha : rr_g a) (kt : a ≤ 0 → W p l e R s m args below meth c H locs cells slots Q (F0 m tgt ls rest)) (kf : ¬ a ≤ 0 → W p l e R s m args below meth c H locs cells slots Q (F0 m (pc + 3) ls rest)) : W p l e R s m args below meth c H locs cells slots Q (F0 m pc ls (.int (rr_i a) :: rest)) := lv_if_le hx hb hdg ht (fun h => kt ((rr_i_le ha rr_g0).mp h)) (fun h => kf (fun h2 => h ((rr_i_le ha rr_g0).mpr h2)))
theorem rr_if_eq {a : Int} {off : Int} {tgt : Nat} (hx : p.tables.exec = Jvm.exec) (hb : c.code = cc) (hdg : decode cc pc = .ok (.ifCond .eq off, 3)) (ht : (pc : Int) + off = (tgt : Int)) (ha : rr_g a) (kt : a = 0 → W p l e R s m args below meth c H locs cells slots Q (F0 m tgt ls rest)) (kf : ¬ a = 0 → W p l e R s m args below meth c H locs cells slots Q (F0 m (pc + 3) ls rest)) : W p l e R s m args below meth c H locs cells slots Q (F0 m pc ls (.int (rr_i a) :: rest)) := lv_if_eq hx hb hdg ht (fun h => kt ((rr_i_eq ha rr_g0).mp h)) (fun h => kf (fun h2 => h ((rr_i_eq ha rr_g0).mpr h2)))
theorem rr_if_ne {a : Int} {off : Int} {tgt : Nat} (hx : p.tables.exec = Jvm.exec) (hb : c.code = cc) (hdg : decode cc pc = .ok (.ifCond .ne off, 3)) (ht : (pc : Int) + off = (tgt : Int)) (ha : rr_g a) (kt : ¬ a = 0 → W p l e R s m args below meth c H locs cells slots Q (F0 m tgt ls rest)) (kf : a = 0 → W p l e R s m args below meth c H locs cells slots Q (F0 m (pc + 3) ls rest)) : W p l e R s m args below meth c H locs cells slots Q (F0 m pc ls (.int (rr_i a) :: rest)) := lv_if_ne hx hb hdg ht (fun h => kt (fun h2 => h ((rr_i_eq ha rr_g0).mpr h2))) (fun h => kf ((rr_i_eq ha rr_g0).mp h))
/-- arrays of ints -/
theorem rr_iald {g : rr_G} {w : va_W} {a : Nat} {n : Nat} {N : Int} {f : Int → Int} {i : Int} (hx : p.tables.exec = Jvm.exec) (hb : c.code = cc) (hK : rr_K g s) (hP : va_P g.1 vwCl w H) (q0 : Nat) (ha : w[q0]? = some (a, .inl (g.2.1, n, .inl (rr_a f)))) (hN : N = (n : Int)) (hn : n < 2147483648) (h : 0 ≤ i ∧ i < N) (hdg : decode cc pc = .ok (.iaload, 1)) (k : W p l e R s m args below meth c H locs cells slots Q (F0 m (pc + 1) ls (.int (rr_i (f i)) :: rest))) : W p l e R s m args below meth c H locs cells slots Q (F0 m pc ls (.int (rr_i i) :: .ref a :: rest)) := va_iald hx hb hK.1 hP q0 0 ha rfl (rr_in (hN ▸ h) hn) hdg (by rw [rr_a_get f ⟨h.1, by have := h.2; omega⟩]; exact k)
theorem rr_iast {g : rr_G} {w : va_W} {A : Nat → Prop} {H0 : Heap} {a : Nat} {n : Nat} {N : Int} {f : Int → Int} {i v : Int} (hx : p.tables.exec = Jvm.exec) (hb : c.code = cc) (hK : rr_K g s) (hP : va_P g.1 vwCl w H) (hD : va_D A w) (hS : va_S A H0 H locs) (q0 : Nat) (ha : w[q0]? = some (a, .inl (g.2.1, n, .inl (rr_a f)))) (hN : N = (n : Int)) (hn : n < 2147483648) (h : 0 ≤ i ∧ i < N) (hdg : decode cc pc = .ok (.iastore, 1)) (kk : ∀ (H1 : Heap) (locs1 : List Loc), va_P g.1 vwCl (w.set q0 (a, .inl (g.2.1, n, .inl (rr_a (rr_u f i v))))) H1 → va_D A (w.set q0 (a, .inl (g.2.1, n, .inl (rr_a (rr_u f i v))))) → va_S A H0 H1 locs1 → W p l e R s m args below meth c H1 locs1 cells slots Q (F0 m (pc + 1) ls rest)) : W p l e R s m args below meth c H locs cells slots Q (F0 m pc ls (.int (rr_i v) :: .int (rr_i i) :: .ref a :: rest)) := va_iast hx hb hK.1 hP hD hS q0 0 ha rfl (rr_in (hN ▸ h) hn) hdg (fun H1 locs1 h1 h2 h3 => by rw [rr_a_upd f v ⟨h.1, by have := h.2; omega⟩] at h1 h2; exact kk H1 locs1 h1 h2 h3)
theorem rr_zald {g : rr_G} {w : va_W} {a : Nat} {n : Nat} {N : Int} {f : Int → Int} {i : Int} (hx : p.tables.exec = Jvm.exec) (hb : c.code = cc) (hK : rr_K g s) (hP : va_P g.1 vwCl w H) (q0 : Nat) (ha : w[q0]? = some (a, .inl (g.2.2.1, n, .inl (rr_a f)))) (hN : N = (n : Int)) (hn : n < 2147483648) (h : 0 ≤ i ∧ i < N) (hdg : decode cc pc = .ok (.baload, 1)) (k : W p l e R s m args below meth c H locs cells slots Q (F0 m (pc + 1) ls (.int (rr_i (f i)) :: rest))) : W p l e R s m args below meth c H locs cells slots Q (F0 m pc ls (.int (rr_i i) :: .ref a :: rest)) := va_zald hx hb hK.1 hP q0 1 ha rfl (rr_in (hN ▸ h) hn) hdg (by rw [rr_a_get f ⟨h.1, by have := h.2; omega⟩]; exact k)
theorem rr_nar {v : Int} (h : v = 0 ∨ v = 1) : vp_nar .boolean (rr_i v) = rr_i v := by rcases h with rfl | rfl <;> decide +kernel
theorem rr_zast {g : rr_G} {w : va_W} {A : Nat → Prop} {H0 : Heap} {a : Nat} {n : Nat} {N : Int} {f : Int → Int} {i v : Int} (hx : p.tables.exec = Jvm.exec) (hb : c.code = cc) (hK : rr_K g s) (hP : va_P g.1 vwCl w H) (hD : va_D A w) (hS : va_S A H0 H locs) (q0 : Nat) (ha : w[q0]? = some (a, .inl (g.2.2.1, n, .inl (rr_a f)))) (hN : N = (n : Int)) (hn : n < 2147483648) (h : 0 ≤ i ∧ i < N) (h01 : v = 0 ∨ v = 1) (hdg : decode cc pc = .ok (.bastore, 1)) (kk : ∀ (H1 : Heap) (locs1 : List Loc), va_P g.1 vwCl (w.set q0 (a, .inl (g.2.2.1, n, .inl (rr_a (rr_u f i v))))) H1 → va_D A (w.set q0 (a, .inl (g.2.2.1, n, .inl (rr_a (rr_u f i v))))) → va_S A H0 H1 locs1 → W p l e R s m args below meth c H1 locs1 cells slots Q (F0 m (pc + 1) ls rest)) : W p l e R s m args below meth c H locs cells slots Q (F0 m pc ls (.int (rr_i v) :: .int (rr_i i) :: .ref a :: rest)) := va_zast hx hb hK.1 hP hD hS q0 1 ha rfl (rr_in (hN ▸ h) hn) hdg (fun H1 locs1 h1 h2 h3 => by rw [rr_nar h01, rr_a_upd f v ⟨h.1, by have := h.2; omega⟩] at h1 h2; exact kk H1 locs1 h1 h2 h3)
/-- calls of methods that only read -/
theorem rr_callI {r : Int} {a : Array Value} {st0 : List Value} (hr : va_Run p l e R s m args below meth c H locs cells slots 0 0 (F0 m pc ls st0) rest (vp_Si (fun x => x = rr_i r) a) (fun _ => False)) (kk : W p l e R s m args below meth c H locs cells slots Q (F0 m (pc + 3) ls (.int (rr_i r) :: rest))) : W p l e R s m args below meth c H locs cells slots Q (F0 m pc ls st0) := vp_callSi hr.run (fun x hx => by subst hx; exact kk)
theorem rr_callL {r : Int} {a : Array Value} {st0 : List Value} (hr : va_Run p l e R s m args below meth c H locs cells slots 0 0 (F0 m pc ls st0) rest (vp_Sl (fun x => x = rr_l r) a) (fun _ => False)) (kk : W p l e R s m args below meth c H locs cells slots Q (F0 m (pc + 3) ls (.long (rr_l r) :: rest))) : W p l e R s m args below meth c H locs cells slots Q (F0 m pc ls st0) := vp_callSl hr.run (fun x hx => by subst hx; exact kk)
/-- calls of methods that write: of the whole world, or of a part of it -/
theorem rr_allI {g : rr_G} {A : Nat → Prop} {w w1 : va_W} {r : Int} {mc ms : Nat} {a : Array Value} {st0 : List Value} (hD : va_D A w) (hS : va_S A s.heap H locs) (hA : ∀ q, s.heap.size ≤ q → A q) (hr : va_Run p l e R s m args below meth c H locs cells slots mc ms (F0 m pc ls st0) rest (rr_Qi g r w1 (va_A w H.size) a) (va_A w H.size)) (kk : ∀ (H1 : Heap) (locs1 : List Loc), va_P g.1 vwCl w1 H1 → va_D A w1 → va_S A s.heap H1 locs1 → W p l e R s m args below meth c H1 locs1 (cells + mc) (slots + ms) Q (F0 m (pc + 3) ls (.int (rr_i r) :: rest))) : W p l e R s m args below meth c H locs cells slots Q (F0 m pc ls st0) := by
  have hF : ∀ q, va_A w H.size q → A q := fun q h => h.elim (fun ⟨k, e, h1⟩ => hD.2 k (q, e) h1) (fun h1 => hA q (Nat.le_trans hS.1 h1))
  exact va_calli hr hS (fun q _ h => hF q h) hF (fun x u t H1 locs1 ht hvm hw hB hz1 hk1 hS1 => by
    subst hw; obtain ⟨hP1, hD1⟩ := hB
    rw [ht] at hP1
    exact kk H1 locs1 hP1 (hD1.weaken (fun k q _ h => hF q.1 h)) hS1)
theorem rr_partI {g : rr_G} {A : Nat → Prop} {w wc wr w1 : va_W} {r : Int} {mc ms : Nat} {a : Array Value} {st0 : List Value} (hP : va_P g.1 vwCl w H) (hD : va_D A w) (hS : va_S A s.heap H locs) (hA : ∀ q, s.heap.size ≤ q → A q) (isC isR : List Nat) (hC : isC.map (fun i => w[i]?) = wc.map some) (hR : isR.map (fun i => w[i]?) = wr.map some) (hn : va_nd isR = true) (hdis : ∀ i ∈ isR, i ∉ isC) (hr : va_Run p l e R s m args below meth c H locs cells slots mc ms (F0 m pc ls st0) rest (rr_Qi g r w1 (va_A wc H.size) a) (va_A wc H.size)) (kk : ∀ (H1 : Heap) (locs1 : List Loc), va_P g.1 vwCl (wr ++ w1) H1 → va_D A (wr ++ w1) → va_S A s.heap H1 locs1 → W p l e R s m args below meth c H1 locs1 (cells + mc) (slots + ms) Q (F0 m (pc + 3) ls (.int (rr_i r) :: rest))) : W p l e R s m args below meth c H locs cells slots Q (F0 m pc ls st0) := by
  have hF := va_free (wc := wc) hD hS hA isC hC
  exact va_calli hr hS (fun q _ h => hF q h) hF (fun x u t H1 locs1 ht hvm hw hB hz1 hk1 hS1 => by
    subst hw; obtain ⟨hP1, hD1⟩ := hB
    rw [ht] at hP1
    obtain ⟨h1, h2⟩ := va_join hP hD isC isR hC hR hn hdis hk1 hF hP1 hD1
    exact kk H1 locs1 h1 h2 hS1)
theorem rr_allL {g : rr_G} {A : Nat → Prop} {w w1 : va_W} {r : Int} {mc ms : Nat} {a : Array Value} {st0 : List Value} (hD : va_D A w) (hS : va_S A s.heap H locs) (hA : ∀ q, s.heap.size ≤ q → A q) (hr : va_Run p l e R s m args below meth c H locs cells slots mc ms (F0 m pc ls st0) rest (rr_Ql g r w1 (va_A w H.size) a) (va_A w H.size)) (kk : ∀ (H1 : Heap) (locs1 : List Loc), va_P g.1 vwCl w1 H1 → va_D A w1 → va_S A s.heap H1 locs1 → W p l e R s m args below meth c H1 locs1 (cells + mc) (slots + ms) Q (F0 m (pc + 3) ls (.long (rr_l r) :: rest))) : W p l e R s m args below meth c H locs cells slots Q (F0 m pc ls st0) := by
  have hF : ∀ q, va_A w H.size q → A q := fun q h => h.elim (fun ⟨k, e, h1⟩ => hD.2 k (q, e) h1) (fun h1 => hA q (Nat.le_trans hS.1 h1))
  exact va_calll hr hS (fun q _ h => hF q h) hF (fun x u t H1 locs1 ht hvm hw hB hz1 hk1 hS1 => by
    subst hw; obtain ⟨hP1, hD1⟩ := hB
    rw [ht] at hP1
    exact kk H1 locs1 hP1 (hD1.weaken (fun k q _ h => hF q.1 h)) hS1)
theorem rr_partL {g : rr_G} {A : Nat → Prop} {w wc wr w1 : va_W} {r : Int} {mc ms : Nat} {a : Array Value} {st0 : List Value} (hP : va_P g.1 vwCl w H) (hD : va_D A w) (hS : va_S A s.heap H locs) (hA : ∀ q, s.heap.size ≤ q → A q) (isC isR : List Nat) (hC : isC.map (fun i => w[i]?) = wc.map some) (hR : isR.map (fun i => w[i]?) = wr.map some) (hn : va_nd isR = true) (hdis : ∀ i ∈ isR, i ∉ isC) (hr : va_Run p l e R s m args below meth c H locs cells slots mc ms (F0 m pc ls st0) rest (rr_Ql g r w1 (va_A wc H.size) a) (va_A wc H.size)) (kk : ∀ (H1 : Heap) (locs1 : List Loc), va_P g.1 vwCl (wr ++ w1) H1 → va_D A (wr ++ w1) → va_S A s.heap H1 locs1 → W p l e R s m args below meth c H1 locs1 (cells + mc) (slots + ms) Q (F0 m (pc + 3) ls (.long (rr_l r) :: rest))) : W p l e R s m args below meth c H locs cells slots Q (F0 m pc ls st0) := by
  have hF := va_free (wc := wc) hD hS hA isC hC
  exact va_calll hr hS (fun q _ h => hF q h) hF (fun x u t H1 locs1 ht hvm hw hB hz1 hk1 hS1 => by
    subst hw; obtain ⟨hP1, hD1⟩ := hB
    rw [ht] at hP1
    obtain ⟨h1, h2⟩ := va_join hP hD isC isR hC hR hn hdis hk1 hF hP1 hD1
    exact kk H1 locs1 h1 h2 hS1)
theorem rr_allV {g : rr_G} {A : Nat → Prop} {w w1 : va_W} {mc ms : Nat} {a : Array Value} {st0 : List Value} (hD : va_D A w) (hS : va_S A s.heap H locs) (hA : ∀ q, s.heap.size ≤ q → A q) (hr : va_Run p l e R s m args below meth c H locs cells slots mc ms (F0 m pc ls st0) rest (rr_Qv g w1 (va_A w H.size) a) (va_A w H.size)) (kk : ∀ (H1 : Heap) (locs1 : List Loc), va_P g.1 vwCl w1 H1 → va_D A w1 → va_S A s.heap H1 locs1 → W p l e R s m args below meth c H1 locs1 (cells + mc) (slots + ms) Q (F0 m (pc + 3) ls (rest))) : W p l e R s m args below meth c H locs cells slots Q (F0 m pc ls st0) := by
  have hF : ∀ q, va_A w H.size q → A q := fun q h => h.elim (fun ⟨k, e, h1⟩ => hD.2 k (q, e) h1) (fun h1 => hA q (Nat.le_trans hS.1 h1))
  exact va_callv hr hS (fun q _ h => hF q h) hF (fun u t H1 locs1 ht hvm hw hB hz1 hk1 hS1 => by
    obtain ⟨hP1, hD1⟩ := hB
    rw [ht] at hP1
    exact kk H1 locs1 hP1 (hD1.weaken (fun k q _ h => hF q.1 h)) hS1)
theorem rr_partV {g : rr_G} {A : Nat → Prop} {w wc wr w1 : va_W} {mc ms : Nat} {a : Array Value} {st0 : List Value} (hP : va_P g.1 vwCl w H) (hD : va_D A w) (hS : va_S A s.heap H locs) (hA : ∀ q, s.heap.size ≤ q → A q) (isC isR : List Nat) (hC : isC.map (fun i => w[i]?) = wc.map some) (hR : isR.map (fun i => w[i]?) = wr.map some) (hn : va_nd isR = true) (hdis : ∀ i ∈ isR, i ∉ isC) (hr : va_Run p l e R s m args below meth c H locs cells slots mc ms (F0 m pc ls st0) rest (rr_Qv g w1 (va_A wc H.size) a) (va_A wc H.size)) (kk : ∀ (H1 : Heap) (locs1 : List Loc), va_P g.1 vwCl (wr ++ w1) H1 → va_D A (wr ++ w1) → va_S A s.heap H1 locs1 → W p l e R s m args below meth c H1 locs1 (cells + mc) (slots + ms) Q (F0 m (pc + 3) ls (rest))) : W p l e R s m args below meth c H locs cells slots Q (F0 m pc ls st0) := by
  have hF := va_free (wc := wc) hD hS hA isC hC
  exact va_callv hr hS (fun q _ h => hF q h) hF (fun u t H1 locs1 ht hvm hw hB hz1 hk1 hS1 => by
    obtain ⟨hP1, hD1⟩ := hB
    rw [ht] at hP1
    obtain ⟨h1, h2⟩ := va_join hP hD isC isR hC hR hn hdis hk1 hF hP1 hD1
    exact kk H1 locs1 h1 h2 hS1)
end RW
theorem rr_roI {l : Launch} {y : MethodName} {ws ws' : List Cond} {rm : Room} {cc : ByteArray} {maxL : Nat} {g : rr_G} {av : List Value} {w : va_W} {out : Int} (hy : plainName y.cls = true) (hw : ws = Cond.code y cc maxL (some .int) :: ws') (hlen : (lg_sl av).length ≤ maxL)
    (kk : ∀ (p : Program) (e : Env) (s : State) (m : MethodId) (ar : Array Value) (below : List Frame) (meth : Method) (c : Code) (Q : State → Prop) (ls : Array Slot), p.tables.exec = Jvm.exec → c.code = cc → c.maxLocals = maxL → s.vm.findClass y.cls = some m.cls → (∀ q ∈ ws, q.before ar s = true) → rr_K g s → va_P g.1 vwCl w s.heap → (∀ (x : Int) (pc : Nat) (ls : Array Slot), some x = some out → decode cc pc = .ok (.ireturn, 1) → W p l e rm s m ar below meth c s.heap [] 0 0 Q (F0 m pc ls [.int (rr_i x)])) → lv_has ls maxL (lv_args 0 av) → W p l e rm s m ar below meth c s.heap [] 0 0 Q (F0 m 0 ls [])) : Met l y ws rm (rr_R g av w) (vp_Si (fun x => x = rr_i out)) 0 0 (fun _ => False) :=
  rr_ro hy hw hlen (fun p e s m below meth c ls hx hb hr hml hown hts hlk hK hP hl => kk p e s m av.toArray below meth c _ ls hx hb hml hown hts hK hP (fun x pc ls h hd => by cases h; exact rr_irt hx hb hr hlk hd) hl)
theorem rr_roZ {l : Launch} {y : MethodName} {ws ws' : List Cond} {rm : Room} {cc : ByteArray} {maxL : Nat} {g : rr_G} {av : List Value} {w : va_W} {out : Int} (hy : plainName y.cls = true) (hw : ws = Cond.code y cc maxL (some .boolean) :: ws') (hlen : (lg_sl av).length ≤ maxL)
    (kk : ∀ (p : Program) (e : Env) (s : State) (m : MethodId) (ar : Array Value) (below : List Frame) (meth : Method) (c : Code) (Q : State → Prop) (ls : Array Slot), p.tables.exec = Jvm.exec → c.code = cc → c.maxLocals = maxL → s.vm.findClass y.cls = some m.cls → (∀ q ∈ ws, q.before ar s = true) → rr_K g s → va_P g.1 vwCl w s.heap → (∀ (x : Int) (pc : Nat) (ls : Array Slot), some x = some out → (x = 0 ∨ x = 1) → decode cc pc = .ok (.ireturn, 1) → W p l e rm s m ar below meth c s.heap [] 0 0 Q (F0 m pc ls [.int (rr_i x)])) → lv_has ls maxL (lv_args 0 av) → W p l e rm s m ar below meth c s.heap [] 0 0 Q (F0 m 0 ls [])) : Met l y ws rm (rr_R g av w) (vp_Si (fun x => x = rr_i out)) 0 0 (fun _ => False) :=
  rr_ro hy hw hlen (fun p e s m below meth c ls hx hb hr hml hown hts hlk hK hP hl => kk p e s m av.toArray below meth c _ ls hx hb hml hown hts hK hP (fun x pc ls h hz hd => by cases h; exact rr_zrt hx hb hr hlk hz hd) hl)
theorem rr_roL {l : Launch} {y : MethodName} {ws ws' : List Cond} {rm : Room} {cc : ByteArray} {maxL : Nat} {g : rr_G} {av : List Value} {w : va_W} {out : Int} (hy : plainName y.cls = true) (hw : ws = Cond.code y cc maxL (some .long) :: ws') (hlen : (lg_sl av).length ≤ maxL)
    (kk : ∀ (p : Program) (e : Env) (s : State) (m : MethodId) (ar : Array Value) (below : List Frame) (meth : Method) (c : Code) (Q : State → Prop) (ls : Array Slot), p.tables.exec = Jvm.exec → c.code = cc → c.maxLocals = maxL → s.vm.findClass y.cls = some m.cls → (∀ q ∈ ws, q.before ar s = true) → rr_K g s → va_P g.1 vwCl w s.heap → (∀ (x : Int) (pc : Nat) (ls : Array Slot), some x = some out → decode cc pc = .ok (.lreturn, 1) → W p l e rm s m ar below meth c s.heap [] 0 0 Q (F0 m pc ls [.long (rr_l x)])) → lv_has ls maxL (lv_args 0 av) → W p l e rm s m ar below meth c s.heap [] 0 0 Q (F0 m 0 ls [])) : Met l y ws rm (rr_R g av w) (vp_Sl (fun x => x = rr_l out)) 0 0 (fun _ => False) :=
  rr_ro hy hw hlen (fun p e s m below meth c ls hx hb hr hml hown hts hlk hK hP hl => kk p e s m av.toArray below meth c _ ls hx hb hml hown hts hK hP (fun x pc ls h hd => by cases h; exact rr_lrt hx hb hr hlk hd) hl)
theorem rr_rwI {S : Type} {l : Launch} {y : MethodName} {ws ws' : List Cond} {rm : Room} {cc : ByteArray} {maxL : Nat} {g : rr_G} {av : List Value} {sz : Nat} (w : S → va_W) (σ : S) (out : Int × S) (hy : plainName y.cls = true) (hw : ws = Cond.code y cc maxL (some .int) :: ws') (hlen : (lg_sl av).length ≤ maxL)
    (kk : ∀ (p : Program) (e : Env) (s : State) (m : MethodId) (ar : Array Value) (below : List Frame) (meth : Method) (c : Code) (Q : State → Prop) (ls : Array Slot) (A : Nat → Prop), p.tables.exec = Jvm.exec → c.code = cc → c.maxLocals = maxL → s.vm.findClass y.cls = some m.cls → (∀ q ∈ ws, q.before ar s = true) → rr_K g s → (∀ q : Nat, s.heap.size ≤ q → A q) → va_P g.1 vwCl (w σ) s.heap → va_D A (w σ) → va_S A s.heap s.heap [] → (∀ (x : Int) (τ : S) (H : Heap) (locs : List Loc) (pc : Nat) (ls : Array Slot), some (x, τ) = some out → va_P g.1 vwCl (w τ) H → va_D A (w τ) → va_S A s.heap H locs → decode cc pc = .ok (.ireturn, 1) → W p l e rm s m ar below meth c H locs 0 0 Q (F0 m pc ls [.int (rr_i x)])) → lv_has ls maxL (lv_args 0 av) → W p l e rm s m ar below meth c s.heap [] 0 0 Q (F0 m 0 ls [])) : Met l y ws rm (rr_P g av (w σ) sz) (rr_Qi g out.1 (w out.2) (va_A (w σ) sz)) 0 0 (va_A (w σ) sz) :=
  rr_rw (fun A => rr_Qi g out.1 (w out.2) A) hy hw hlen (fun p e s m below meth c ls A hx hb hr hml hown hts hlk _ hK hA hP hD hS hl => kk p e s m av.toArray below meth c _ ls A hx hb hml hown hts hK hA hP hD hS (fun x τ H locs pc ls h hP hD hS hd => by cases h; exact rr_iret hx hb hr hlk hP hD hS hd) hl)
theorem rr_rwZ {S : Type} {l : Launch} {y : MethodName} {ws ws' : List Cond} {rm : Room} {cc : ByteArray} {maxL : Nat} {g : rr_G} {av : List Value} {sz : Nat} (w : S → va_W) (σ : S) (out : Int × S) (hy : plainName y.cls = true) (hw : ws = Cond.code y cc maxL (some .boolean) :: ws') (hlen : (lg_sl av).length ≤ maxL)
    (kk : ∀ (p : Program) (e : Env) (s : State) (m : MethodId) (ar : Array Value) (below : List Frame) (meth : Method) (c : Code) (Q : State → Prop) (ls : Array Slot) (A : Nat → Prop), p.tables.exec = Jvm.exec → c.code = cc → c.maxLocals = maxL → s.vm.findClass y.cls = some m.cls → (∀ q ∈ ws, q.before ar s = true) → rr_K g s → (∀ q : Nat, s.heap.size ≤ q → A q) → va_P g.1 vwCl (w σ) s.heap → va_D A (w σ) → va_S A s.heap s.heap [] → (∀ (x : Int) (τ : S) (H : Heap) (locs : List Loc) (pc : Nat) (ls : Array Slot), some (x, τ) = some out → (x = 0 ∨ x = 1) → va_P g.1 vwCl (w τ) H → va_D A (w τ) → va_S A s.heap H locs → decode cc pc = .ok (.ireturn, 1) → W p l e rm s m ar below meth c H locs 0 0 Q (F0 m pc ls [.int (rr_i x)])) → lv_has ls maxL (lv_args 0 av) → W p l e rm s m ar below meth c s.heap [] 0 0 Q (F0 m 0 ls [])) : Met l y ws rm (rr_P g av (w σ) sz) (rr_Qi g out.1 (w out.2) (va_A (w σ) sz)) 0 0 (va_A (w σ) sz) :=
  rr_rw (fun A => rr_Qi g out.1 (w out.2) A) hy hw hlen (fun p e s m below meth c ls A hx hb hr hml hown hts hlk _ hK hA hP hD hS hl => kk p e s m av.toArray below meth c _ ls A hx hb hml hown hts hK hA hP hD hS (fun x τ H locs pc ls h hz hP hD hS hd => by cases h; exact rr_zret hx hb hr hlk hz hP hD hS hd) hl)
theorem rr_rwL {S : Type} {l : Launch} {y : MethodName} {ws ws' : List Cond} {rm : Room} {cc : ByteArray} {maxL : Nat} {g : rr_G} {av : List Value} {sz : Nat} (w : S → va_W) (σ : S) (out : Int × S) (hy : plainName y.cls = true) (hw : ws = Cond.code y cc maxL (some .long) :: ws') (hlen : (lg_sl av).length ≤ maxL)
    (kk : ∀ (p : Program) (e : Env) (s : State) (m : MethodId) (ar : Array Value) (below : List Frame) (meth : Method) (c : Code) (Q : State → Prop) (ls : Array Slot) (A : Nat → Prop), p.tables.exec = Jvm.exec → c.code = cc → c.maxLocals = maxL → s.vm.findClass y.cls = some m.cls → (∀ q ∈ ws, q.before ar s = true) → rr_K g s → (∀ q : Nat, s.heap.size ≤ q → A q) → va_P g.1 vwCl (w σ) s.heap → va_D A (w σ) → va_S A s.heap s.heap [] → (∀ (x : Int) (τ : S) (H : Heap) (locs : List Loc) (pc : Nat) (ls : Array Slot), some (x, τ) = some out → va_P g.1 vwCl (w τ) H → va_D A (w τ) → va_S A s.heap H locs → decode cc pc = .ok (.lreturn, 1) → W p l e rm s m ar below meth c H locs 0 0 Q (F0 m pc ls [.long (rr_l x)])) → lv_has ls maxL (lv_args 0 av) → W p l e rm s m ar below meth c s.heap [] 0 0 Q (F0 m 0 ls [])) : Met l y ws rm (rr_P g av (w σ) sz) (rr_Ql g out.1 (w out.2) (va_A (w σ) sz)) 0 0 (va_A (w σ) sz) :=
  rr_rw (fun A => rr_Ql g out.1 (w out.2) A) hy hw hlen (fun p e s m below meth c ls A hx hb hr hml hown hts hlk _ hK hA hP hD hS hl => kk p e s m av.toArray below meth c _ ls A hx hb hml hown hts hK hA hP hD hS (fun x τ H locs pc ls h hP hD hS hd => by cases h; exact rr_lret hx hb hr hlk hP hD hS hd) hl)
theorem rr_rwV {S : Type} {l : Launch} {y : MethodName} {ws ws' : List Cond} {rm : Room} {cc : ByteArray} {maxL : Nat} {g : rr_G} {av : List Value} {sz : Nat} (w : S → va_W) (σ : S) (out : S) (hy : plainName y.cls = true) (hw : ws = Cond.code y cc maxL (none) :: ws') (hlen : (lg_sl av).length ≤ maxL)
    (kk : ∀ (p : Program) (e : Env) (s : State) (m : MethodId) (ar : Array Value) (below : List Frame) (meth : Method) (c : Code) (Q : State → Prop) (ls : Array Slot) (A : Nat → Prop), p.tables.exec = Jvm.exec → c.code = cc → c.maxLocals = maxL → s.vm.findClass y.cls = some m.cls → (∀ q ∈ ws, q.before ar s = true) → rr_K g s → (∀ q : Nat, s.heap.size ≤ q → A q) → va_P g.1 vwCl (w σ) s.heap → va_D A (w σ) → va_S A s.heap s.heap [] → (∀ (τ : S) (H : Heap) (locs : List Loc) (pc : Nat) (ls : Array Slot), some τ = some out → va_P g.1 vwCl (w τ) H → va_D A (w τ) → va_S A s.heap H locs → decode cc pc = .ok (.return_, 1) → W p l e rm s m ar below meth c H locs 0 0 Q (F0 m pc ls [])) → lv_has ls maxL (lv_args 0 av) → W p l e rm s m ar below meth c s.heap [] 0 0 Q (F0 m 0 ls [])) : Met l y ws rm (rr_P g av (w σ) sz) (rr_Qv g (w out) (va_A (w σ) sz)) 0 0 (va_A (w σ) sz) :=
  rr_rw (fun A => rr_Qv g (w out) A) hy hw hlen (fun p e s m below meth c ls A hx hb hr hml hown hts hlk _ hK hA hP hD hS hl => kk p e s m av.toArray below meth c _ ls A hx hb hml hown hts hK hA hP hD hS (fun τ H locs pc ls h hP hD hS hd => by cases h; exact rr_vret hx hb hr hlk hP hD hS hd) hl)
/-- a row replaced; the first n numbers of one row over another -/
def rr_w (σ : rr_T) (k : Nat) (f : Int → Int) : rr_T := fun k' => if k' = k then f else σ k'
def rr_cp (f g : Int → Int) (n : Int) : Int → Int := fun j => if 0 ≤ j ∧ j < n then f j else g j
theorem rr_a_cpy (f g : Int → Int) (N : Nat) (hN : N < 2147483648) : va_cpy (rr_a f) (rr_a g) (rr_i 0).toNatClampNeg (rr_i 0).toNatClampNeg (rr_i (N : Int)).toNatClampNeg = rr_a (rr_cp f g (N : Int)) := by
  rw [rr_clamp (i := 0) (by decide), rr_clamp (i := (N : Int)) ⟨by omega, by omega⟩]
  funext j
  show (if (0 : Int).toNat ≤ j ∧ j < (0 : Int).toNat + ((N : Int)).toNat then rr_i (f (((0 : Int).toNat + (j - (0 : Int).toNat) : Nat) : Int)) else rr_i (g (j : Int))) = rr_i (if 0 ≤ (j : Int) ∧ (j : Int) < (N : Int) then f (j : Int) else g (j : Int))
  have h0 : (0 : Int).toNat = 0 := rfl
  rw [h0, Int.toNat_natCast, Nat.sub_zero, Nat.zero_add, Nat.zero_add]
  by_cases hj : j < N
  · rw [if_pos ⟨Nat.zero_le j, hj⟩, if_pos ⟨by omega, by omega⟩]
  · rw [if_neg (fun h => hj h.2), if_neg (fun h => hj (by omega))]
section RX
variable {p : Program} {l : Launch} {e : Env} {R : Room} {s : State} {m : MethodId} {args : Array Value} {below : List Frame} {meth : Method} {c : Code} {H : Heap} {locs : List Loc} {cells slots : Nat} {Q : State → Prop} {cc : ByteArray} {pc : Nat} {ls : Array Slot} {rest : List Value}
theorem rr_mmax {a b : Int} {own : String} {index : Nat} (hx : p.tables.exec = Jvm.exec) (hb : c.code = cc) (hml : c.maxLocals = ls.size) (hown : s.vm.findClass own = some m.cls) (hlink : (Cond.methodLink own index Lib.Math.max.name).before args s = true) (hstat : (Cond.static Lib.Math.max.name).before args s = true) (hini : (Cond.initialized "java/lang/Math").before args s = true) (hcode : (Cond.code Lib.Math.max.name Lib.Math.max.code 2 (some .int)).before args s = true)
    (hframes : 1 ≤ R.frames) (hlocals : (rest.map fun v => v.category).sum + 13 ≤ R.locals) (hc : cells ≤ R.cells) (hs : slots ≤ R.slots) (ha : rr_g a) (hb2 : rr_g b) (hdg : decode cc pc = .ok (.invokestatic index, 3))
    (kk : W p l e R s m args below meth c H locs cells slots Q (F0 m (pc + 3) ls (.int (rr_i (if a < b then b else a)) :: rest))) : W p l e R s m args below meth c H locs cells slots Q (F0 m pc ls (.int (rr_i b) :: .int (rr_i a) :: rest)) := by
  refine va_mmax hx hb hml hown hlink hstat hini hcode hframes hlocals hc hs hdg ?_
  have h : (if rr_i a < rr_i b then rr_i b else rr_i a) = rr_i (if a < b then b else a) := by
    by_cases h1 : a < b
    · rw [if_pos h1, if_pos ((rr_i_lt ha hb2).mpr h1)]
    · rw [if_neg h1, if_neg (fun h2 => h1 ((rr_i_lt ha hb2).mp h2))]
  rw [h]
  exact kk
theorem rr_copy {own : String} {index : Nat} {g : rr_G} {w : va_W} {A : Nat → Prop} {H0 : Heap} {a0 a n0 n1 : Nat} {f f1 : Int → Int} {n : Int} (N : Nat) (hN : n = (N : Int)) (hx : p.tables.exec = Jvm.exec) (hb : c.code = cc) (hml : c.maxLocals = ls.size) (hown : s.vm.findClass own = some m.cls) (hlink : (Cond.methodLink own index arraycopyName).before args s = true) (hnat : (Cond.native arraycopyName).before args s = true) (hstat : (Cond.static arraycopyName).before args s = true) (hini : (Cond.initialized "java/lang/System").before args s = true)
    (hK : rr_K g s) (hP : va_P g.1 vwCl w H) (hD : va_D A w) (hS : va_S A H0 H locs) (q0 q1 : Nat) (ha0 : w[q0]? = some (a0, .inl (g.2.1, n0, .inl (rr_a f)))) (ha1 : w[q1]? = some (a, .inl (g.2.1, n1, .inl (rr_a f1)))) (h0 : N ≤ n0) (h1 : N ≤ n1) (hlt : N < 2147483648)
    (hframes : 1 ≤ R.frames) (hlocals : (rest.map fun v => v.category).sum + (nativeFrameWords "java/lang/System" "arraycopy" 5 + 11) ≤ R.locals) (hdg : decode cc pc = .ok (.invokestatic index, 3))
    (kk : ∀ (H1 : Heap) (locs1 : List Loc), va_P g.1 vwCl (w.set q1 (a, .inl (g.2.1, n1, .inl (rr_a (rr_cp f f1 n))))) H1 → va_D A (w.set q1 (a, .inl (g.2.1, n1, .inl (rr_a (rr_cp f f1 n))))) → va_S A H0 H1 locs1 → W p l e R s m args below meth c H1 locs1 cells slots Q (F0 m (pc + 3) ls rest)) : W p l e R s m args below meth c H locs cells slots Q (F0 m pc ls (.int (rr_i n) :: .int (rr_i 0) :: .ref a :: .int (rr_i 0) :: .ref a0 :: rest)) := by
  subst hN
  have z0 : ¬ rr_i 0 < 0 := by decide
  have zn : ¬ rr_i (N : Int) < 0 := fun h => by
    have h2 := (rr_i_lt (a := (N : Int)) (b := 0) ⟨by omega, by omega⟩ (by decide)).mp h
    omega
  have cN : (rr_i (N : Int)).toNatClampNeg = N := by rw [rr_clamp ⟨by omega, by omega⟩]; rfl
  have c0 : (rr_i 0).toNatClampNeg = 0 := by rw [rr_clamp (by decide)]; rfl
  refine va_copyi (ty := .int) hx hb hml hown hlink hnat hstat hini hK.1 hP hD hS q0 q1 0 0 ha0 ha1 rfl rfl rfl z0 z0 zn (by rw [c0, cN]; omega) (by rw [c0, cN]; omega) (fun _ _ => rfl) hframes hlocals hdg (fun H1 locs1 h1 h2 h3 => ?_)
  rw [rr_a_cpy f f1 N hlt] at h1 h2
  exact kk H1 locs1 h1 h2 h3
end RX
/-- worlds whose addresses a method may change; the rest of a world -/
def rr_pick (w : va_W) (is : List Nat) : va_W := is.filterMap (fun i => w[i]?)
abbrev rr_Qix (g : rr_G) (r : Int) (w : (Nat → Nat) → va_W) (A : Nat → Prop) : Array Value → State → Outcome → State → Prop := va_Qi (fun (x : Int32) (_ : Nat → Nat) => x = rr_i r) (fun u t => va_P g.1 vwCl (w u) t.heap ∧ va_D A (w u)) A
abbrev rr_Qvx (g : rr_G) (w : (Nat → Nat) → va_W) (A : Nat → Prop) : Array Value → State → Outcome → State → Prop := va_Qv (fun (_ : Nat → Nat) => True) (fun u t => va_P g.1 vwCl (w u) t.heap ∧ va_D A (w u)) A
section RY
variable {p : Program} {l : Launch} {e : Env} {R : Room} {s : State} {m : MethodId} {args : Array Value} {below : List Frame} {meth : Method} {c : Code} {H : Heap} {locs : List Loc} {cells slots : Nat} {Q : State → Prop} {cc : ByteArray} {pc : Nat} {ls : Array Slot} {rest : List Value}
theorem rr_allIx {g : rr_G} {A : Nat → Prop} {w : va_W} {w1 : (Nat → Nat) → va_W} {r : Int} {mc ms : Nat} {a : Array Value} {st0 : List Value} (hD : va_D A w) (hS : va_S A s.heap H locs) (hA : ∀ q, s.heap.size ≤ q → A q) (hr : va_Run p l e R s m args below meth c H locs cells slots mc ms (F0 m pc ls st0) rest (rr_Qix g r w1 (va_A w H.size) a) (va_A w H.size)) (kk : ∀ (u : Nat → Nat) (H1 : Heap) (locs1 : List Loc), va_P g.1 vwCl (w1 u) H1 → va_D A (w1 u) → va_S A s.heap H1 locs1 → W p l e R s m args below meth c H1 locs1 (cells + mc) (slots + ms) Q (F0 m (pc + 3) ls (.int (rr_i r) :: rest))) : W p l e R s m args below meth c H locs cells slots Q (F0 m pc ls st0) := by
  have hF : ∀ q, va_A w H.size q → A q := fun q h => h.elim (fun ⟨k, e, h1⟩ => hD.2 k (q, e) h1) (fun h1 => hA q (Nat.le_trans hS.1 h1))
  exact va_calli hr hS (fun q _ h => hF q h) hF (fun x u t H1 locs1 ht hvm hw hB hz1 hk1 hS1 => by
    subst hw; obtain ⟨hP1, hD1⟩ := hB
    rw [ht] at hP1
    exact kk u H1 locs1 hP1 (hD1.weaken (fun k q _ h => hF q.1 h)) hS1)
theorem rr_partIx {g : rr_G} {A : Nat → Prop} {w wc wr : va_W} {w1 : (Nat → Nat) → va_W} {r : Int} {mc ms : Nat} {a : Array Value} {st0 : List Value} (hP : va_P g.1 vwCl w H) (hD : va_D A w) (hS : va_S A s.heap H locs) (hA : ∀ q, s.heap.size ≤ q → A q) (isC isR : List Nat) (hC : isC.map (fun i => w[i]?) = wc.map some) (hR : isR.map (fun i => w[i]?) = wr.map some) (hn : va_nd isR = true) (hdis : ∀ i ∈ isR, i ∉ isC) (hr : va_Run p l e R s m args below meth c H locs cells slots mc ms (F0 m pc ls st0) rest (rr_Qix g r w1 (va_A wc H.size) a) (va_A wc H.size)) (kk : ∀ (u : Nat → Nat) (H1 : Heap) (locs1 : List Loc), va_P g.1 vwCl (wr ++ w1 u) H1 → va_D A (wr ++ w1 u) → va_S A s.heap H1 locs1 → W p l e R s m args below meth c H1 locs1 (cells + mc) (slots + ms) Q (F0 m (pc + 3) ls (.int (rr_i r) :: rest))) : W p l e R s m args below meth c H locs cells slots Q (F0 m pc ls st0) := by
  have hF := va_free (wc := wc) hD hS hA isC hC
  exact va_calli hr hS (fun q _ h => hF q h) hF (fun x u t H1 locs1 ht hvm hw hB hz1 hk1 hS1 => by
    subst hw; obtain ⟨hP1, hD1⟩ := hB
    rw [ht] at hP1
    obtain ⟨h1, h2⟩ := va_join hP hD isC isR hC hR hn hdis hk1 hF hP1 hD1
    exact kk u H1 locs1 h1 h2 hS1)
theorem rr_allVx {g : rr_G} {A : Nat → Prop} {w : va_W} {w1 : (Nat → Nat) → va_W} {mc ms : Nat} {a : Array Value} {st0 : List Value} (hD : va_D A w) (hS : va_S A s.heap H locs) (hA : ∀ q, s.heap.size ≤ q → A q) (hr : va_Run p l e R s m args below meth c H locs cells slots mc ms (F0 m pc ls st0) rest (rr_Qvx g w1 (va_A w H.size) a) (va_A w H.size)) (kk : ∀ (u : Nat → Nat) (H1 : Heap) (locs1 : List Loc), va_P g.1 vwCl (w1 u) H1 → va_D A (w1 u) → va_S A s.heap H1 locs1 → W p l e R s m args below meth c H1 locs1 (cells + mc) (slots + ms) Q (F0 m (pc + 3) ls (rest))) : W p l e R s m args below meth c H locs cells slots Q (F0 m pc ls st0) := by
  have hF : ∀ q, va_A w H.size q → A q := fun q h => h.elim (fun ⟨k, e, h1⟩ => hD.2 k (q, e) h1) (fun h1 => hA q (Nat.le_trans hS.1 h1))
  exact va_callv hr hS (fun q _ h => hF q h) hF (fun u t H1 locs1 ht hvm hw hB hz1 hk1 hS1 => by
    obtain ⟨hP1, hD1⟩ := hB
    rw [ht] at hP1
    exact kk u H1 locs1 hP1 (hD1.weaken (fun k q _ h => hF q.1 h)) hS1)
theorem rr_partVx {g : rr_G} {A : Nat → Prop} {w wc wr : va_W} {w1 : (Nat → Nat) → va_W} {mc ms : Nat} {a : Array Value} {st0 : List Value} (hP : va_P g.1 vwCl w H) (hD : va_D A w) (hS : va_S A s.heap H locs) (hA : ∀ q, s.heap.size ≤ q → A q) (isC isR : List Nat) (hC : isC.map (fun i => w[i]?) = wc.map some) (hR : isR.map (fun i => w[i]?) = wr.map some) (hn : va_nd isR = true) (hdis : ∀ i ∈ isR, i ∉ isC) (hr : va_Run p l e R s m args below meth c H locs cells slots mc ms (F0 m pc ls st0) rest (rr_Qvx g w1 (va_A wc H.size) a) (va_A wc H.size)) (kk : ∀ (u : Nat → Nat) (H1 : Heap) (locs1 : List Loc), va_P g.1 vwCl (wr ++ w1 u) H1 → va_D A (wr ++ w1 u) → va_S A s.heap H1 locs1 → W p l e R s m args below meth c H1 locs1 (cells + mc) (slots + ms) Q (F0 m (pc + 3) ls (rest))) : W p l e R s m args below meth c H locs cells slots Q (F0 m pc ls st0) := by
  have hF := va_free (wc := wc) hD hS hA isC hC
  exact va_callv hr hS (fun q _ h => hF q h) hF (fun u t H1 locs1 ht hvm hw hB hz1 hk1 hS1 => by
    obtain ⟨hP1, hD1⟩ := hB
    rw [ht] at hP1
    obtain ⟨h1, h2⟩ := va_join hP hD isC isR hC hR hn hdis hk1 hF hP1 hD1
    exact kk u H1 locs1 h1 h2 hS1)
/-- new arrays: their classes are the tables' -/
theorem rr_newi {g : rr_G} {w : va_W} {A : Nat → Prop} {H0 : Heap} {n : Int} (N : Nat) (hn : n = (N : Int)) (hN : N < 100000) (hx : p.tables.exec = Jvm.exec) (hb : c.code = cc) (harr : (Cond.arrayClass .int).before args s = true) (hK : rr_K g s) (hP : va_P g.1 vwCl w H) (hD : va_D A w) (hS : va_S A H0 H locs) (hA : ∀ q, H0.size ≤ q → A q) (hcells : cells + 1 ≤ R.cells) (hslots : slots + N ≤ R.slots) (hdg : decode cc pc = .ok (.newarray .int, 2))
    (kk : ∀ (q : Nat) (H1 : Heap), va_P g.1 vwCl (w ++ [(q, .inl (g.2.1, N, .inl (rr_a (fun _ => 0))))]) H1 → va_D A (w ++ [(q, .inl (g.2.1, N, .inl (rr_a (fun _ => 0))))]) → va_S A H0 H1 locs → W p l e R s m args below meth c H1 locs (cells + 1) (slots + N) Q (F0 m (pc + 2) ls (.ref q :: rest))) : W p l e R s m args below meth c H locs cells slots Q (F0 m pc ls (.int (rr_i n) :: rest)) := by
  subst hn
  have z : ¬ rr_i (N : Int) < 0 := fun h => by
    have h2 := (rr_i_lt (a := (N : Int)) (b := 0) ⟨by omega, by omega⟩ (by decide)).mp h
    omega
  have cN : (rr_i (N : Int)).toNatClampNeg = N := by rw [rr_clamp ⟨by omega, by omega⟩]; rfl
  refine va_newa (atype := .int) (ty := .int) (a0 := (N, .inl (rr_a (fun _ => 0)))) hx hb harr rfl hK.1 hP hD hS hA (fun cA => rfl) z cN (by show N * 4 ≤ _; omega) hcells hslots hdg (fun q cA H1 hK1 hP1 hD1 hS1 => ?_)
  have e : cA = g.2.1 := Option.some.inj ((hK1.2 3 (cA, .int) rfl).2.symm.trans (hK.1.2 0 (g.2.1, .int) rfl).2)
  subst e
  exact kk q H1 hP1 hD1 hS1
theorem rr_newz {g : rr_G} {w : va_W} {A : Nat → Prop} {H0 : Heap} {n : Int} (N : Nat) (hn : n = (N : Int)) (hN : N < 100000) (hx : p.tables.exec = Jvm.exec) (hb : c.code = cc) (harr : (Cond.arrayClass .boolean).before args s = true) (hK : rr_K g s) (hP : va_P g.1 vwCl w H) (hD : va_D A w) (hS : va_S A H0 H locs) (hA : ∀ q, H0.size ≤ q → A q) (hcells : cells + 1 ≤ R.cells) (hslots : slots + N ≤ R.slots) (hdg : decode cc pc = .ok (.newarray .boolean, 2))
    (kk : ∀ (q : Nat) (H1 : Heap), va_P g.1 vwCl (w ++ [(q, .inl (g.2.2.1, N, .inl (rr_a (fun _ => 0))))]) H1 → va_D A (w ++ [(q, .inl (g.2.2.1, N, .inl (rr_a (fun _ => 0))))]) → va_S A H0 H1 locs → W p l e R s m args below meth c H1 locs (cells + 1) (slots + N) Q (F0 m (pc + 2) ls (.ref q :: rest))) : W p l e R s m args below meth c H locs cells slots Q (F0 m pc ls (.int (rr_i n) :: rest)) := by
  subst hn
  have z : ¬ rr_i (N : Int) < 0 := fun h => by
    have h2 := (rr_i_lt (a := (N : Int)) (b := 0) ⟨by omega, by omega⟩ (by decide)).mp h
    omega
  have cN : (rr_i (N : Int)).toNatClampNeg = N := by rw [rr_clamp ⟨by omega, by omega⟩]; rfl
  refine va_newa (atype := .boolean) (ty := .boolean) (a0 := (N, .inl (rr_a (fun _ => 0)))) hx hb harr rfl hK.1 hP hD hS hA (fun cA => rfl) z cN (by show N * 1 ≤ _; omega) hcells hslots hdg (fun q cA H1 hK1 hP1 hD1 hS1 => ?_)
  have e : cA = g.2.2.1 := Option.some.inj ((hK1.2 3 (cA, .boolean) rfl).2.symm.trans (hK.1.2 1 (g.2.2.1, .boolean) rfl).2)
  subst e
  exact kk q H1 hP1 hD1 hS1
theorem rr_newr {g : rr_G} {w : va_W} {A : Nat → Prop} {H0 : Heap} {own : String} {index : Nat} {n : Int} (N : Nat) (hn : n = (N : Int)) (hN : N < 100000) (hx : p.tables.exec = Jvm.exec) (hb : c.code = cc) (hown : s.vm.findClass own = some m.cls) (hcl : (Cond.classLink own index "RoomRing$Stock").before args s = true) (hK : rr_K g s) (hP : va_P g.1 vwCl w H) (hD : va_D A w) (hS : va_S A H0 H locs) (hA : ∀ q, H0.size ≤ q → A q) (hcells : cells + 1 ≤ R.cells) (hslots : slots + N ≤ R.slots) (hdg : decode cc pc = .ok (.anewarray index, 3))
    (kk : ∀ (q : Nat) (H1 : Heap), va_P g.1 vwCl (w ++ [(q, .inl (g.2.2.2, N, .inr (.inr (.inr (.inr (fun _ => none))))))]) H1 → va_D A (w ++ [(q, .inl (g.2.2.2, N, .inr (.inr (.inr (.inr (fun _ => none))))))]) → va_S A H0 H1 locs → W p l e R s m args below meth c H1 locs (cells + 1) (slots + N) Q (F0 m (pc + 3) ls (.ref q :: rest))) : W p l e R s m args below meth c H locs cells slots Q (F0 m pc ls (.int (rr_i n) :: rest)) := by
  subst hn
  have z : ¬ rr_i (N : Int) < 0 := fun h => by
    have h2 := (rr_i_lt (a := (N : Int)) (b := 0) ⟨by omega, by omega⟩ (by decide)).mp h
    omega
  have cN : (rr_i (N : Int)).toNatClampNeg = N := by rw [rr_clamp ⟨by omega, by omega⟩]; rfl
  refine va_newq hx hb hown hcl hK.2.1 hK.1 hP hD hS hA z cN (by omega) hcells hslots hdg (fun q cA H1 hK1 hP1 hD1 hS1 => ?_)
  obtain ⟨-, -, -, -, -, e1⟩ := (hK1.2 3 (cA, .object "RoomRing$Stock") rfl).2
  obtain ⟨-, -, -, -, -, e2⟩ := (hK.1.2 2 (g.2.2.2, .object "RoomRing$Stock") rfl).2
  have e : cA = g.2.2.2 := Option.some.inj (e1.symm.trans e2)
  subst e
  exact kk q H1 hP1 hD1 hS1
end RY
theorem rr_rwIx {S : Type} {l : Launch} {y : MethodName} {ws ws' : List Cond} {rm : Room} {cc : ByteArray} {maxL : Nat} {g : rr_G} {av : List Value} {sz : Nat} (w : (Nat → Nat) → S → va_W) (ad : Nat → Nat) (σ : S) (out : Int × S) (hy : plainName y.cls = true) (hw : ws = Cond.code y cc maxL (some .int) :: ws') (hlen : (lg_sl av).length ≤ maxL)
    (kk : ∀ (p : Program) (e : Env) (s : State) (m : MethodId) (ar : Array Value) (below : List Frame) (meth : Method) (c : Code) (Q : State → Prop) (ls : Array Slot) (A : Nat → Prop), p.tables.exec = Jvm.exec → c.code = cc → c.maxLocals = maxL → s.vm.findClass y.cls = some m.cls → (∀ q ∈ ws, q.before ar s = true) → rr_K g s → (∀ q : Nat, s.heap.size ≤ q → A q) → va_P g.1 vwCl (w ad σ) s.heap → va_D A (w ad σ) → va_S A s.heap s.heap [] → (∀ (x : Int) (τ : S) (u : Nat → Nat) (H : Heap) (locs : List Loc) (pc : Nat) (ls : Array Slot), some (x, τ) = some out → va_P g.1 vwCl (w u τ) H → va_D A (w u τ) → va_S A s.heap H locs → decode cc pc = .ok (.ireturn, 1) → W p l e rm s m ar below meth c H locs 0 0 Q (F0 m pc ls [.int (rr_i x)])) → lv_has ls maxL (lv_args 0 av) → W p l e rm s m ar below meth c s.heap [] 0 0 Q (F0 m 0 ls [])) : Met l y ws rm (rr_P g av (w ad σ) sz) (rr_Qix g out.1 (fun u => w u out.2) (va_A (w ad σ) sz)) 0 0 (va_A (w ad σ) sz) :=
  rr_rw (fun A => rr_Qix g out.1 (fun u => w u out.2) A) hy hw hlen (fun p e s m below meth c ls A hx hb hr hml hown hts hlk _ hK hA hP hD hS hl => kk p e s m av.toArray below meth c _ ls A hx hb hml hown hts hK hA hP hD hS (fun x τ u H locs pc ls h hP hD hS hd => by cases h; exact W.iret (v := rr_i x) hx hb hr (fun t ht _ => ⟨⟨rr_i x, u, rfl, rfl, by rw [ht]; exact hP, hD⟩, hS.F ht⟩) hS.2.2 hd hlk) hl)
theorem rr_rwVx {S : Type} {l : Launch} {y : MethodName} {ws ws' : List Cond} {rm : Room} {cc : ByteArray} {maxL : Nat} {g : rr_G} {av : List Value} {sz : Nat} (w : (Nat → Nat) → S → va_W) (ad : Nat → Nat) (σ : S) (out : S) (hy : plainName y.cls = true) (hw : ws = Cond.code y cc maxL (none) :: ws') (hlen : (lg_sl av).length ≤ maxL)
    (kk : ∀ (p : Program) (e : Env) (s : State) (m : MethodId) (ar : Array Value) (below : List Frame) (meth : Method) (c : Code) (Q : State → Prop) (ls : Array Slot) (A : Nat → Prop), p.tables.exec = Jvm.exec → c.code = cc → c.maxLocals = maxL → s.vm.findClass y.cls = some m.cls → (∀ q ∈ ws, q.before ar s = true) → rr_K g s → (∀ q : Nat, s.heap.size ≤ q → A q) → va_P g.1 vwCl (w ad σ) s.heap → va_D A (w ad σ) → va_S A s.heap s.heap [] → (∀ (τ : S) (u : Nat → Nat) (H : Heap) (locs : List Loc) (pc : Nat) (ls : Array Slot), some τ = some out → va_P g.1 vwCl (w u τ) H → va_D A (w u τ) → va_S A s.heap H locs → decode cc pc = .ok (.return_, 1) → W p l e rm s m ar below meth c H locs 0 0 Q (F0 m pc ls [])) → lv_has ls maxL (lv_args 0 av) → W p l e rm s m ar below meth c s.heap [] 0 0 Q (F0 m 0 ls [])) : Met l y ws rm (rr_P g av (w ad σ) sz) (rr_Qvx g (fun u => w u out) (va_A (w ad σ) sz)) 0 0 (va_A (w ad σ) sz) :=
  rr_rw (fun A => rr_Qvx g (fun u => w u out) A) hy hw hlen (fun p e s m below meth c ls A hx hb hr hml hown hts hlk _ hK hA hP hD hS hl => kk p e s m av.toArray below meth c _ ls A hx hb hml hown hts hK hA hP hD hS (fun τ u H locs pc ls h hP hD hS hd => by cases h; exact W.vret hx hb hr (fun t ht _ => ⟨⟨u, rfl, trivial, by rw [ht]; exact hP, hD⟩, hS.F ht⟩) hS.2.2 hd hlk) hl)
/-- arrays of references: a list of addresses -/
def rr_lf (L : List Nat) : Nat → Option Nat := fun k => L[k]?
theorem rr_lf_set (L : List Nat) (j v : Nat) (hj : j < L.length) : va_up (rr_lf L) j (some v) = rr_lf (L.set j v) := by
  funext k
  show (if k = j then some v else L[k]?) = (L.set j v)[k]?
  by_cases hk : k = j
  · subst hk
    rw [if_pos rfl, List.getElem?_set_self hj]
  · rw [if_neg hk, List.getElem?_set_ne (fun h => hk h.symm)]
theorem rr_lf_5 (a b c d e : Nat) : va_up (va_up (va_up (va_up (va_up (fun _ => none) 0 (some a)) 1 (some b)) 2 (some c)) 3 (some d)) 4 (some e) = rr_lf [a, b, c, d, e] := by
  funext k
  match k with
  | 0 => rfl
  | 1 => rfl
  | 2 => rfl
  | 3 => rfl
  | 4 => rfl
  | k + 5 => rfl
section RZ
variable {p : Program} {l : Launch} {e : Env} {R : Room} {s : State} {m : MethodId} {args : Array Value} {below : List Frame} {meth : Method} {c : Code} {H : Heap} {locs : List Loc} {cells slots : Nat} {Q : State → Prop} {cc : ByteArray} {pc : Nat} {ls : Array Slot} {rest : List Value}
theorem rr_ald {g : rr_G} {w : va_W} {a v : Nat} {f : Nat → Option Nat} {i : Int} (j : Nat) (hij : i = (j : Int)) (hj : j < 5) (hv : f j = some v) (hx : p.tables.exec = Jvm.exec) (hb : c.code = cc) (hK : rr_K g s) (hP : va_P g.1 vwCl w H) (q0 : Nat) (ha : w[q0]? = some (a, .inl (g.2.2.2, 5, .inr (.inr (.inr (.inr f)))))) (hdg : decode cc pc = .ok (.aaload, 1)) (k : W p l e R s m args below meth c H locs cells slots Q (F0 m (pc + 1) ls (.ref v :: rest))) : W p l e R s m args below meth c H locs cells slots Q (F0 m pc ls (.int (rr_i i) :: .ref a :: rest)) := by
  subst hij
  refine va_aldq hx hb hK.1 hP q0 2 ha rfl (rr_in ⟨by omega, by omega⟩ (by omega)) hdg ?_
  have cj : (rr_i (j : Int)).toNatClampNeg = j := by rw [rr_clamp ⟨by omega, by omega⟩]; rfl
  rw [cj, hv]
  exact k
theorem rr_ast {g : rr_G} {w : va_W} {A : Nat → Prop} {H0 : Heap} {a v : Nat} {vs : List Value} {f : Nat → Option Nat} {i : Int} (j : Nat) (hij : i = (j : Int)) (hj : j < 5) (hx : p.tables.exec = Jvm.exec) (hb : c.code = cc) (hK : rr_K g s) (hP : va_P g.1 vwCl w H) (hD : va_D A w) (hS : va_S A H0 H locs) (q0 qk : Nat) (ha : w[q0]? = some (a, .inl (g.2.2.2, 5, .inr (.inr (.inr (.inr f)))))) (hv : w[qk]? = some (v, .inr (3, vs))) (hdg : decode cc pc = .ok (.aastore, 1)) (kk : ∀ (H1 : Heap) (locs1 : List Loc), va_P g.1 vwCl (w.set q0 (a, .inl (g.2.2.2, 5, .inr (.inr (.inr (.inr (va_up f j (some v)))))))) H1 → va_D A (w.set q0 (a, .inl (g.2.2.2, 5, .inr (.inr (.inr (.inr (va_up f j (some v)))))))) → va_S A H0 H1 locs1 → W p l e R s m args below meth c H1 locs1 cells slots Q (F0 m (pc + 1) ls rest)) : W p l e R s m args below meth c H locs cells slots Q (F0 m pc ls (.ref v :: .int (rr_i i) :: .ref a :: rest)) := by
  subst hij
  have cj : (rr_i (j : Int)).toNatClampNeg = j := by rw [rr_clamp ⟨by omega, by omega⟩]; rfl
  refine va_astq (r := (RX3, TX3, 7)) hx hb hK.1 hP hD hS q0 2 qk 3 ha rfl hv rfl (rr_in ⟨by omega, by omega⟩ (by omega)) hdg (fun H1 locs1 h1 h2 h3 => ?_)
  rw [cj] at h1 h2
  exact kk H1 locs1 h1 h2 h3
end RZ
/-- a constructor: the object's own address stays, the others are new -/
abbrev rr_Qn (g : rr_G) (h0 : Nat) (w : (Nat → Nat) → va_W) (A : Nat → Prop) : Array Value → State → Outcome → State → Prop := va_Qv (fun (u : Nat → Nat) => u 0 = h0) (fun u t => va_P g.1 vwCl (w u) t.heap ∧ va_D A (w u)) A
theorem rr_init {l : Launch} {y : MethodName} {ws ws' : List Cond} {rm : Room} {cc : ByteArray} {maxL mc ms : Nat} {g : rr_G} {h0 : Nat} {w0 : va_W} {sz : Nat} (w : (Nat → Nat) → va_W) (hy : plainName y.cls = true) (hyn : y.name = "<init>") (hw : ws = Cond.code y cc maxL none :: ws') (hlen : 1 ≤ maxL)
    (kk : ∀ (p : Program) (e : Env) (s : State) (m : MethodId) (ar : Array Value) (below : List Frame) (meth : Method) (c : Code) (Q : State → Prop) (ls : Array Slot) (A : Nat → Prop), p.tables.exec = Jvm.exec → c.code = cc → c.maxLocals = maxL → s.vm.findClass y.cls = some m.cls → (∀ q ∈ ws, q.before ar s = true) → meth.name = "<init>" → rr_K g s → (∀ q : Nat, s.heap.size ≤ q → A q) → va_P g.1 vwCl w0 s.heap → va_D A w0 → va_S A s.heap s.heap [] → (∀ (u : Nat → Nat) (H : Heap) (locs : List Loc) (pc : Nat) (ls : Array Slot), u 0 = h0 → va_P g.1 vwCl (w u) H → va_D A (w u) → va_S A s.heap H locs → decode cc pc = .ok (.return_, 1) → W p l e rm s m ar below meth c H locs mc ms Q (F0 m pc ls [])) → lv_has ls maxL [(0, .ref h0)] → W p l e rm s m ar below meth c s.heap [] 0 0 Q (F0 m 0 ls [])) : Met l y ws rm (rr_P g [.ref h0] w0 sz) (rr_Qn g h0 w (va_A w0 sz)) mc ms (va_A w0 sz) :=
  rr_rw (fun A => rr_Qn g h0 w A) hy hw hlen (fun p e s m below meth c ls A hx hb hr hml hown hts hlk hnm hK hA hP hD hS hl => kk p e s m ([.ref h0] : List Value).toArray below meth c _ ls A hx hb hml hown hts (hnm.symm.trans hyn) hK hA hP hD hS (fun u H locs pc ls hu hP hD hS hd => W.vret hx hb hr (fun t ht _ => ⟨⟨u, rfl, hu, by rw [ht]; exact hP, hD⟩, hS.F ht⟩) hS.2.2 hd hlk) hl)
section RN
variable {p : Program} {l : Launch} {e : Env} {R : Room} {s : State} {m : MethodId} {args : Array Value} {below : List Frame} {meth : Method} {c : Code} {H : Heap} {locs : List Loc} {cells slots : Nat} {Q : State → Prop} {cc : ByteArray} {pc : Nat} {ls : Array Slot} {rest : List Value}
/-- a constructor is called on the last cell of the world -/
theorem rr_partN {g : rr_G} {A : Nat → Prop} {w wc wr : va_W} {w1 : (Nat → Nat) → va_W} {h0 mc ms : Nat} {a : Array Value} {st0 : List Value} (hP : va_P g.1 vwCl w H) (hD : va_D A w) (hS : va_S A s.heap H locs) (hA : ∀ q, s.heap.size ≤ q → A q) (isC isR : List Nat) (hC : isC.map (fun i => w[i]?) = wc.map some) (hR : isR.map (fun i => w[i]?) = wr.map some) (hn : va_nd isR = true) (hdis : ∀ i ∈ isR, i ∉ isC) (hr : va_Run p l e R s m args below meth c H locs cells slots mc ms (F0 m pc ls st0) rest (rr_Qn g h0 w1 (va_A wc H.size) a) (va_A wc H.size)) (kk : ∀ (u : Nat → Nat) (H1 : Heap) (locs1 : List Loc), u 0 = h0 → va_P g.1 vwCl (wr ++ w1 u) H1 → va_D A (wr ++ w1 u) → va_S A s.heap H1 locs1 → W p l e R s m args below meth c H1 locs1 (cells + mc) (slots + ms) Q (F0 m (pc + 3) ls rest)) : W p l e R s m args below meth c H locs cells slots Q (F0 m pc ls st0) := by
  have hF := va_free (wc := wc) hD hS hA isC hC
  exact va_callv hr hS (fun q _ h => hF q h) hF (fun u t H1 locs1 ht hvm hw hB hz1 hk1 hS1 => by
    obtain ⟨hP1, hD1⟩ := hB
    rw [ht] at hP1
    obtain ⟨h1, h2⟩ := va_join hP hD isC isR hC hR hn hdis hk1 hF hP1 hD1
    exact kk u H1 locs1 hw h1 h2 hS1)
end RN
