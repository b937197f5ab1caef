/-! THE CLAIM OUT OF ONE WALK OF THE LAW'S BODY. Your part is whole_start (and what it stands on); all else here is the same for every law, but numbers. -/
def R_law : String := "RoomRingLaw"
def lw_P (b : Addr) (xs : List Int32) (args : Array Value) (s : State) : Prop := args = #[.ref b] ∧ s.IntsAt b xs ∧ xs.length ≤ 1536 ∧ (Jvm.Cond.and given_1 narrow_1).before args s = true
def lw_Q (_ : Array Value) (s : State) (o : Outcome) (t : State) : Prop := o = .returned (some (.int 1)) ∧ Framed s o t [] 600000 7302250
def lw_Z (below : List Frame) (a : Array Value) (s : State) : State → Prop := fun t => ∃ o, t.status = .running ∧ Ended t below o ∧ lw_Q a s o t
/-- the law's own end, with 1 on the stack, nothing written that was there before, its room as the claim has it -/
theorem lw_ret {p : Program} {l : Launch} {e : Env} {s : State} {m : MethodId} {below : List Frame} {meth : Method} {c : Code} {b : Nat} (hx : p.tables.exec = Jvm.exec) (hb : c.code = code) (hr : meth.sig.returnType = ret) (hlocks : meth.locks = false) {pc : Nat} {H : Heap} {ls : Array Slot} (hdg : decode code pc = .ok (.ireturn, 1)) : W p l e room_1 s m #[Value.ref b] below meth c H [] 600000 7302250 (lw_Z below #[Value.ref b] s) (F0 m pc ls [.int 1]) := by
  intro T hT X
  obtain ⟨fs, hret, hrun, hended, hW, hframe⟩ := X.leave (v := some (.int 1)) (hlocks := hlocks) (fun h => by rw [hr] at h; cases h)
  have hmeth' : T.vm.method? m = some meth := X.method'
  refine ⟨T.setFrames fs, ?_, .returned (some (.int 1)), hrun, hended, rfl, ⟨_, rfl⟩, hW, hframe⟩
  jvm_step X.here [X.here.top, hx, hb, hdg, hmeth', hr, ret, narrow_b1]
  (try refine ⟨rfl, ?_⟩); (try refine ⟨rfl, ?_⟩)
  first | (intro acts; rw [hret _ acts rfl rfl rfl]) | rw [hret _ _ rfl rfl rfl]
  exact Steps.refl _
/-- what holds at the law's entry: the machine, the code, the tables' words (any of lw_tbl by 'hts w (by decide +kernel)'), the script of L ints xs at the cell b, what the Statement gives of the start (any of its parts by flat_of_before) -/
def lw_At (p : Program) (s : State) (m : MethodId) (meth : Method) (c : Code) (b L : Nat) (xs : Nat → Int32) : Prop :=
  p.tables.exec = Jvm.exec ∧ c.code = code ∧ meth.sig.returnType = ret ∧ c.maxLocals = 4 ∧ s.vm.findClass R_law = some m.cls ∧ (∀ w ∈ lw_tbl, w.before #[Value.ref b] s = true) ∧ va_X b L xs s s.heap ∧ b < s.heap.size ∧ meth.locks = false ∧ (Jvm.Cond.and given_1 narrow_1).before #[Value.ref b] s = true
theorem rr_cmp_self (x : Int64) : lg_cmp x x = 0 := by
  unfold lg_cmp
  simp
set_option maxHeartbeats 4000000 in
set_option maxRecDepth 100000 in
theorem law_c0 {p : Program} {l : Launch} {e : Env} {s : State} {m : MethodId} {below : List Frame} {meth : Method} {c : Code} {b L : Nat} {xs : Nat → Int32} {g : rr_G} {Sim : Nat → (Nat → rr_T) → rr_T → Prop} (hok : rr_ok Sim) (C0 : lw_At p s m meth c b L xs) (hK : rr_K g s) (hL : L ≤ 1536) (i : Int) (hi : 0 ≤ i ∧ i + 3 ≤ (L : Int)) (k : Nat) (hk5 : k < 512) (Ω : Nat → rr_T) (σ : rr_T) (hh : Int) (a : Nat) (ad bd : Nat → Nat) (H : Heap) (locs : List Loc) (ls : Array Slot) : Sim k Ω σ → va_P g.1 vwCl (rr_wC g a ad Ω ++ rr_wM g bd σ hh) H → va_D (fun q : Nat => s.heap.size ≤ q) (rr_wC g a ad Ω ++ rr_wM g bd σ hh) → va_S (fun q : Nat => s.heap.size ≤ q) s.heap H locs → lv_has ls 4 [(0, .ref b), (1, .ref a), (2, .ref (bd 0)), (3, .int (rr_i i))] → (∀ (Ω : Nat → rr_T) (σ : rr_T) (hh : Int) (ad : Nat → Nat) (H : Heap) (locs : List Loc) (ls : Array Slot), Sim (k + 1) Ω σ → va_P g.1 vwCl (rr_wC g a ad Ω ++ rr_wM g bd σ hh) H → va_D (fun q : Nat => s.heap.size ≤ q) (rr_wC g a ad Ω ++ rr_wM g bd σ hh) → va_S (fun q : Nat => s.heap.size ≤ q) s.heap H locs → lv_has ls 4 [(0, .ref b), (1, .ref a), (2, .ref (bd 0)), (3, .int (rr_i i))] → W p l e room_1 s m #[Value.ref b] below meth c H locs 66 2940 (lw_Z below #[Value.ref b] s) (F0 m 653 ls [])) → W p l e room_1 s m #[Value.ref b] below meth c H locs 66 2940 (lw_Z below #[Value.ref b] s) (F0 m 136 ls []) := by
  intro hsim hP hD hS hl hk
  obtain ⟨hx, hb, hr, hml, hown, hts, hX, hbl, hlocks, hgv⟩ := C0
  have hts := fun w h => hts w (wsL_law_in w h)
  have hown : s.vm.findClass RL = some m.cls := hown
  have hA : ∀ q : Nat, s.heap.size ≤ q → (fun q : Nat => s.heap.size ≤ q) q := fun _ h => h
  have hbA : ¬ (fun q : Nat => s.heap.size ≤ q) b := Nat.not_le.mpr hbl
  obtain ⟨x, hxg, hxe⟩ : ∃ z : Int, rr_g z ∧ xs (rr_i (i + 1)).toNatClampNeg = rr_i z := ⟨_, rr_to_g _, (rr_i_to _).symm⟩
  obtain ⟨y, hyg, hye⟩ : ∃ z : Int, rr_g z ∧ xs (rr_i (i + 2)).toNatClampNeg = rr_i z := ⟨_, rr_to_g _, (rr_i_to _).symm⟩
  obtain ⟨r, Ω1, σ1, h4, h5, hsim1⟩ := (hok.1) k Ω σ x y hk5 hsim hxg hyg
  refine lv_aload_n hx hb dL_law_136 rfl (lv_at hl 1 rfl) ?_
  refine lv_aload_n hx hb dL_law_137 rfl (lv_at hl 0 rfl) ?_
  refine lv_iload_n hx hb dL_law_138 rfl (lv_at hl 3 rfl) ?_
  refine rr_iconst hx hb dL_law_139 ?_
  refine rr_iadd hx hb dL_law_140 ?_
  refine va_sld hx hb hX hbl hbA hS (rr_in ⟨by omega, by omega⟩ (by omega)) dL_law_141 ?_
  rw [hxe]
  refine lv_aload_n hx hb dL_law_142 rfl (lv_at hl 0 rfl) ?_
  refine lv_iload_n hx hb dL_law_143 rfl (lv_at hl 3 rfl) ?_
  refine rr_iconst hx hb dL_law_144 ?_
  refine rr_iadd hx hb dL_law_145 ?_
  refine va_sld hx hb hX hbl hbA hS (rr_in ⟨by omega, by omega⟩ (by omega)) dL_law_146 ?_
  rw [hye]
  refine rr_partIx (wc := rr_wC g a ad Ω) (wr := rr_wM g bd σ hh) hP hD hS hA [0, 1, 2, 3, 4, 5, 6, 7, 8, 9, 10, 11, 12, 13, 14, 15, 16, 17, 18, 19, 20, 21, 22, 23, 24, 25, 26, 27, 28, 29, 30, 31, 32, 33, 34, 35, 36, 37, 38, 39, 40, 41, 42, 43, 44, 45, 46, 47, 48, 49, 50, 51] [52, 53, 54, 55, 56, 57, 58, 59, 60, 61, 62, 63, 64, 65] rfl rfl (by decide) (by decide) (va_runV (As := [.int (rr_i x), .int (rr_i y)]) (rest := []) ⟨hx, hb, hml, hown, hts⟩ (kX4_host l g a ad _ x y Ω (r, Ω1) h4) (cwV 2 hts gL_law_X4_host rfl rfl rfl ⟨rfl, hd_X4_host⟩ ⟨Nat.le_of_ble_eq_true rfl, Nat.le_of_ble_eq_true rfl⟩) ⟨rr_P_blind, va_recv hK.1 (hP.sub (ws' := rr_wC g a ad Ω) [0, 1, 2, 3, 4, 5, 6, 7, 8, 9, 10, 11, 12, 13, 14, 15, 16, 17, 18, 19, 20, 21, 22, 23, 24, 25, 26, 27, 28, 29, 30, 31, 32, 33, 34, 35, 36, 37, 38, 39, 40, 41, 42, 43, 44, 45, 46, 47, 48, 49, 50, 51] rfl) (ci := 4) (q0 := 0) rfl rfl, rr_P_pre hK (hP.sub (ws' := rr_wC g a ad Ω) [0, 1, 2, 3, 4, 5, 6, 7, 8, 9, 10, 11, 12, 13, 14, 15, 16, 17, 18, 19, 20, 21, 22, 23, 24, 25, 26, 27, 28, 29, 30, 31, 32, 33, 34, 35, 36, 37, 38, 39, 40, 41, 42, 43, 44, 45, 46, 47, 48, 49, 50, 51] rfl) (hD.sub (ws' := rr_wC g a ad Ω) [0, 1, 2, 3, 4, 5, 6, 7, 8, 9, 10, 11, 12, 13, 14, 15, 16, 17, 18, 19, 20, 21, 22, 23, 24, 25, 26, 27, 28, 29, 30, 31, 32, 33, 34, 35, 36, 37, 38, 39, 40, 41, 42, 43, 44, 45, 46, 47, 48, 49, 50, 51] (by decide) rfl)⟩ rfl rfl hl.1 rfl (lv_room (Nat.le_of_ble_eq_true rfl)) dL_law_147 ⟨Nat.le_of_ble_eq_true rfl, Nat.le_of_ble_eq_true rfl⟩) (fun u H locs hP hD hS => ?_)
  have hP := hP.sub (ws' := rr_wC g a u Ω1 ++ rr_wM g bd σ hh) [14, 15, 16, 17, 18, 19, 20, 21, 22, 23, 24, 25, 26, 27, 28, 29, 30, 31, 32, 33, 34, 35, 36, 37, 38, 39, 40, 41, 42, 43, 44, 45, 46, 47, 48, 49, 50, 51, 52, 53, 54, 55, 56, 57, 58, 59, 60, 61, 62, 63, 64, 65, 0, 1, 2, 3, 4, 5, 6, 7, 8, 9, 10, 11, 12, 13] rfl
  have hD := hD.sub (ws' := rr_wC g a u Ω1 ++ rr_wM g bd σ hh) [14, 15, 16, 17, 18, 19, 20, 21, 22, 23, 24, 25, 26, 27, 28, 29, 30, 31, 32, 33, 34, 35, 36, 37, 38, 39, 40, 41, 42, 43, 44, 45, 46, 47, 48, 49, 50, 51, 52, 53, 54, 55, 56, 57, 58, 59, 60, 61, 62, 63, 64, 65, 0, 1, 2, 3, 4, 5, 6, 7, 8, 9, 10, 11, 12, 13] (by decide) rfl
  generalize u = ad at hP hD
  refine lv_aload_n hx hb dL_law_150 rfl (lv_at hl 2 rfl) ?_
  refine lv_aload_n hx hb dL_law_151 rfl (lv_at hl 0 rfl) ?_
  refine lv_iload_n hx hb dL_law_152 rfl (lv_at hl 3 rfl) ?_
  refine rr_iconst hx hb dL_law_153 ?_
  refine rr_iadd hx hb dL_law_154 ?_
  refine va_sld hx hb hX hbl hbA hS (rr_in ⟨by omega, by omega⟩ (by omega)) dL_law_155 ?_
  rw [hxe]
  refine lv_aload_n hx hb dL_law_156 rfl (lv_at hl 0 rfl) ?_
  refine lv_iload_n hx hb dL_law_157 rfl (lv_at hl 3 rfl) ?_
  refine rr_iconst hx hb dL_law_158 ?_
  refine rr_iadd hx hb dL_law_159 ?_
  refine va_sld hx hb hX hbl hbA hS (rr_in ⟨by omega, by omega⟩ (by omega)) dL_law_160 ?_
  rw [hye]
  refine rr_partI (wc := rr_wM g bd σ hh) (wr := rr_wC g a ad Ω1) hP hD hS hA [52, 53, 54, 55, 56, 57, 58, 59, 60, 61, 62, 63, 64, 65] [0, 1, 2, 3, 4, 5, 6, 7, 8, 9, 10, 11, 12, 13, 14, 15, 16, 17, 18, 19, 20, 21, 22, 23, 24, 25, 26, 27, 28, 29, 30, 31, 32, 33, 34, 35, 36, 37, 38, 39, 40, 41, 42, 43, 44, 45, 46, 47, 48, 49, 50, 51] rfl rfl (by decide) (by decide) (va_runV (As := [.int (rr_i x), .int (rr_i y)]) (rest := [.int (rr_i r)]) ⟨hx, hb, hml, hown, hts⟩ (kX5_host l g bd _ hh x y σ (r, σ1) h5) (cwV 2 hts gL_law_X5_host rfl rfl rfl ⟨rfl, hd_X5_host⟩ ⟨Nat.le_of_ble_eq_true rfl, Nat.le_of_ble_eq_true rfl⟩) ⟨rr_P_blind, va_recv hK.1 (hP.sub (ws' := rr_wM g bd σ hh) [52, 53, 54, 55, 56, 57, 58, 59, 60, 61, 62, 63, 64, 65] rfl) (ci := 5) (q0 := 0) rfl rfl, rr_P_pre hK (hP.sub (ws' := rr_wM g bd σ hh) [52, 53, 54, 55, 56, 57, 58, 59, 60, 61, 62, 63, 64, 65] rfl) (hD.sub (ws' := rr_wM g bd σ hh) [52, 53, 54, 55, 56, 57, 58, 59, 60, 61, 62, 63, 64, 65] (by decide) rfl)⟩ rfl rfl hl.1 rfl (lv_room (Nat.le_of_ble_eq_true rfl)) dL_law_161 ⟨Nat.le_of_ble_eq_true rfl, Nat.le_of_ble_eq_true rfl⟩) (fun H locs hP hD hS => ?_)
  have hP := hP.sub (ws' := rr_wC g a ad Ω1 ++ rr_wM g bd σ1 hh) [0, 1, 2, 3, 4, 5, 6, 7, 8, 9, 10, 11, 12, 13, 14, 15, 16, 17, 18, 19, 20, 21, 22, 23, 24, 25, 26, 27, 28, 29, 30, 31, 32, 33, 34, 35, 36, 37, 38, 39, 40, 41, 42, 43, 44, 45, 46, 47, 48, 49, 50, 51, 52, 53, 54, 55, 56, 57, 58, 59, 60, 61, 62, 63, 64, 65] rfl
  have hD := hD.sub (ws' := rr_wC g a ad Ω1 ++ rr_wM g bd σ1 hh) [0, 1, 2, 3, 4, 5, 6, 7, 8, 9, 10, 11, 12, 13, 14, 15, 16, 17, 18, 19, 20, 21, 22, 23, 24, 25, 26, 27, 28, 29, 30, 31, 32, 33, 34, 35, 36, 37, 38, 39, 40, 41, 42, 43, 44, 45, 46, 47, 48, 49, 50, 51, 52, 53, 54, 55, 56, 57, 58, 59, 60, 61, 62, 63, 64, 65] (by decide) rfl
  refine lv_icmp_eq (tgt := 653) hx hb dL_law_164 (by decide) (fun _ => ?_) (fun c9 => absurd rfl c9)
  exact hk Ω1 σ1 hh ad _ _ ls hsim1 hP hD hS hl
set_option maxHeartbeats 4000000 in
set_option maxRecDepth 100000 in
theorem law_c1 {p : Program} {l : Launch} {e : Env} {s : State} {m : MethodId} {below : List Frame} {meth : Method} {c : Code} {b L : Nat} {xs : Nat → Int32} {g : rr_G} {Sim : Nat → (Nat → rr_T) → rr_T → Prop} (hok : rr_ok Sim) (C0 : lw_At p s m meth c b L xs) (hK : rr_K g s) (hL : L ≤ 1536) (i : Int) (hi : 0 ≤ i ∧ i + 3 ≤ (L : Int)) (k : Nat) (hk5 : k < 512) (Ω : Nat → rr_T) (σ : rr_T) (hh : Int) (a : Nat) (ad bd : Nat → Nat) (H : Heap) (locs : List Loc) (ls : Array Slot) : Sim k Ω σ → va_P g.1 vwCl (rr_wC g a ad Ω ++ rr_wM g bd σ hh) H → va_D (fun q : Nat => s.heap.size ≤ q) (rr_wC g a ad Ω ++ rr_wM g bd σ hh) → va_S (fun q : Nat => s.heap.size ≤ q) s.heap H locs → lv_has ls 4 [(0, .ref b), (1, .ref a), (2, .ref (bd 0)), (3, .int (rr_i i))] → (∀ (Ω : Nat → rr_T) (σ : rr_T) (hh : Int) (ad : Nat → Nat) (H : Heap) (locs : List Loc) (ls : Array Slot), Sim (k + 1) Ω σ → va_P g.1 vwCl (rr_wC g a ad Ω ++ rr_wM g bd σ hh) H → va_D (fun q : Nat => s.heap.size ≤ q) (rr_wC g a ad Ω ++ rr_wM g bd σ hh) → va_S (fun q : Nat => s.heap.size ≤ q) s.heap H locs → lv_has ls 4 [(0, .ref b), (1, .ref a), (2, .ref (bd 0)), (3, .int (rr_i i))] → W p l e room_1 s m #[Value.ref b] below meth c H locs 66 2940 (lw_Z below #[Value.ref b] s) (F0 m 653 ls [])) → W p l e room_1 s m #[Value.ref b] below meth c H locs 66 2940 (lw_Z below #[Value.ref b] s) (F0 m 169 ls []) := by
  intro hsim hP hD hS hl hk
  obtain ⟨hx, hb, hr, hml, hown, hts, hX, hbl, hlocks, hgv⟩ := C0
  have hts := fun w h => hts w (wsL_law_in w h)
  have hown : s.vm.findClass RL = some m.cls := hown
  have hA : ∀ q : Nat, s.heap.size ≤ q → (fun q : Nat => s.heap.size ≤ q) q := fun _ h => h
  have hbA : ¬ (fun q : Nat => s.heap.size ≤ q) b := Nat.not_le.mpr hbl
  obtain ⟨x, hxg, hxe⟩ : ∃ z : Int, rr_g z ∧ xs (rr_i (i + 1)).toNatClampNeg = rr_i z := ⟨_, rr_to_g _, (rr_i_to _).symm⟩
  obtain ⟨y, hyg, hye⟩ : ∃ z : Int, rr_g z ∧ xs (rr_i (i + 2)).toNatClampNeg = rr_i z := ⟨_, rr_to_g _, (rr_i_to _).symm⟩
  obtain ⟨r, Ω1, σ1, h4, h5, hsim1⟩ := (hok.2.1) k Ω σ x y hk5 hsim hxg hyg
  refine lv_aload_n hx hb dL_law_169 rfl (lv_at hl 1 rfl) ?_
  refine lv_aload_n hx hb dL_law_170 rfl (lv_at hl 0 rfl) ?_
  refine lv_iload_n hx hb dL_law_171 rfl (lv_at hl 3 rfl) ?_
  refine rr_iconst hx hb dL_law_172 ?_
  refine rr_iadd hx hb dL_law_173 ?_
  refine va_sld hx hb hX hbl hbA hS (rr_in ⟨by omega, by omega⟩ (by omega)) dL_law_174 ?_
  rw [hxe]
  refine lv_aload_n hx hb dL_law_175 rfl (lv_at hl 0 rfl) ?_
  refine lv_iload_n hx hb dL_law_176 rfl (lv_at hl 3 rfl) ?_
  refine rr_iconst hx hb dL_law_177 ?_
  refine rr_iadd hx hb dL_law_178 ?_
  refine va_sld hx hb hX hbl hbA hS (rr_in ⟨by omega, by omega⟩ (by omega)) dL_law_179 ?_
  rw [hye]
  refine rr_partIx (wc := rr_wC g a ad Ω) (wr := rr_wM g bd σ hh) hP hD hS hA [0, 1, 2, 3, 4, 5, 6, 7, 8, 9, 10, 11, 12, 13, 14, 15, 16, 17, 18, 19, 20, 21, 22, 23, 24, 25, 26, 27, 28, 29, 30, 31, 32, 33, 34, 35, 36, 37, 38, 39, 40, 41, 42, 43, 44, 45, 46, 47, 48, 49, 50, 51] [52, 53, 54, 55, 56, 57, 58, 59, 60, 61, 62, 63, 64, 65] rfl rfl (by decide) (by decide) (va_runV (As := [.int (rr_i x), .int (rr_i y)]) (rest := []) ⟨hx, hb, hml, hown, hts⟩ (kX4_weighs l g a ad _ x y Ω (r, Ω1) h4) (cwV 2 hts gL_law_X4_weighs rfl rfl rfl ⟨rfl, hd_X4_weighs⟩ ⟨Nat.le_of_ble_eq_true rfl, Nat.le_of_ble_eq_true rfl⟩) ⟨rr_P_blind, va_recv hK.1 (hP.sub (ws' := rr_wC g a ad Ω) [0, 1, 2, 3, 4, 5, 6, 7, 8, 9, 10, 11, 12, 13, 14, 15, 16, 17, 18, 19, 20, 21, 22, 23, 24, 25, 26, 27, 28, 29, 30, 31, 32, 33, 34, 35, 36, 37, 38, 39, 40, 41, 42, 43, 44, 45, 46, 47, 48, 49, 50, 51] rfl) (ci := 4) (q0 := 0) rfl rfl, rr_P_pre hK (hP.sub (ws' := rr_wC g a ad Ω) [0, 1, 2, 3, 4, 5, 6, 7, 8, 9, 10, 11, 12, 13, 14, 15, 16, 17, 18, 19, 20, 21, 22, 23, 24, 25, 26, 27, 28, 29, 30, 31, 32, 33, 34, 35, 36, 37, 38, 39, 40, 41, 42, 43, 44, 45, 46, 47, 48, 49, 50, 51] rfl) (hD.sub (ws' := rr_wC g a ad Ω) [0, 1, 2, 3, 4, 5, 6, 7, 8, 9, 10, 11, 12, 13, 14, 15, 16, 17, 18, 19, 20, 21, 22, 23, 24, 25, 26, 27, 28, 29, 30, 31, 32, 33, 34, 35, 36, 37, 38, 39, 40, 41, 42, 43, 44, 45, 46, 47, 48, 49, 50, 51] (by decide) rfl)⟩ rfl rfl hl.1 rfl (lv_room (Nat.le_of_ble_eq_true rfl)) dL_law_180 ⟨Nat.le_of_ble_eq_true rfl, Nat.le_of_ble_eq_true rfl⟩) (fun u H locs hP hD hS => ?_)
  have hP := hP.sub (ws' := rr_wC g a u Ω1 ++ rr_wM g bd σ hh) [14, 15, 16, 17, 18, 19, 20, 21, 22, 23, 24, 25, 26, 27, 28, 29, 30, 31, 32, 33, 34, 35, 36, 37, 38, 39, 40, 41, 42, 43, 44, 45, 46, 47, 48, 49, 50, 51, 52, 53, 54, 55, 56, 57, 58, 59, 60, 61, 62, 63, 64, 65, 0, 1, 2, 3, 4, 5, 6, 7, 8, 9, 10, 11, 12, 13] rfl
  have hD := hD.sub (ws' := rr_wC g a u Ω1 ++ rr_wM g bd σ hh) [14, 15, 16, 17, 18, 19, 20, 21, 22, 23, 24, 25, 26, 27, 28, 29, 30, 31, 32, 33, 34, 35, 36, 37, 38, 39, 40, 41, 42, 43, 44, 45, 46, 47, 48, 49, 50, 51, 52, 53, 54, 55, 56, 57, 58, 59, 60, 61, 62, 63, 64, 65, 0, 1, 2, 3, 4, 5, 6, 7, 8, 9, 10, 11, 12, 13] (by decide) rfl
  generalize u = ad at hP hD
  refine lv_aload_n hx hb dL_law_183 rfl (lv_at hl 2 rfl) ?_
  refine lv_aload_n hx hb dL_law_184 rfl (lv_at hl 0 rfl) ?_
  refine lv_iload_n hx hb dL_law_185 rfl (lv_at hl 3 rfl) ?_
  refine rr_iconst hx hb dL_law_186 ?_
  refine rr_iadd hx hb dL_law_187 ?_
  refine va_sld hx hb hX hbl hbA hS (rr_in ⟨by omega, by omega⟩ (by omega)) dL_law_188 ?_
  rw [hxe]
  refine lv_aload_n hx hb dL_law_189 rfl (lv_at hl 0 rfl) ?_
  refine lv_iload_n hx hb dL_law_190 rfl (lv_at hl 3 rfl) ?_
  refine rr_iconst hx hb dL_law_191 ?_
  refine rr_iadd hx hb dL_law_192 ?_
  refine va_sld hx hb hX hbl hbA hS (rr_in ⟨by omega, by omega⟩ (by omega)) dL_law_193 ?_
  rw [hye]
  refine rr_partI (wc := rr_wM g bd σ hh) (wr := rr_wC g a ad Ω1) hP hD hS hA [52, 53, 54, 55, 56, 57, 58, 59, 60, 61, 62, 63, 64, 65] [0, 1, 2, 3, 4, 5, 6, 7, 8, 9, 10, 11, 12, 13, 14, 15, 16, 17, 18, 19, 20, 21, 22, 23, 24, 25, 26, 27, 28, 29, 30, 31, 32, 33, 34, 35, 36, 37, 38, 39, 40, 41, 42, 43, 44, 45, 46, 47, 48, 49, 50, 51] rfl rfl (by decide) (by decide) (va_runV (As := [.int (rr_i x), .int (rr_i y)]) (rest := [.int (rr_i r)]) ⟨hx, hb, hml, hown, hts⟩ (kX5_weighs l g bd _ hh x y σ (r, σ1) h5) (cwV 2 hts gL_law_X5_weighs rfl rfl rfl ⟨rfl, hd_X5_weighs⟩ ⟨Nat.le_of_ble_eq_true rfl, Nat.le_of_ble_eq_true rfl⟩) ⟨rr_P_blind, va_recv hK.1 (hP.sub (ws' := rr_wM g bd σ hh) [52, 53, 54, 55, 56, 57, 58, 59, 60, 61, 62, 63, 64, 65] rfl) (ci := 5) (q0 := 0) rfl rfl, rr_P_pre hK (hP.sub (ws' := rr_wM g bd σ hh) [52, 53, 54, 55, 56, 57, 58, 59, 60, 61, 62, 63, 64, 65] rfl) (hD.sub (ws' := rr_wM g bd σ hh) [52, 53, 54, 55, 56, 57, 58, 59, 60, 61, 62, 63, 64, 65] (by decide) rfl)⟩ rfl rfl hl.1 rfl (lv_room (Nat.le_of_ble_eq_true rfl)) dL_law_194 ⟨Nat.le_of_ble_eq_true rfl, Nat.le_of_ble_eq_true rfl⟩) (fun H locs hP hD hS => ?_)
  have hP := hP.sub (ws' := rr_wC g a ad Ω1 ++ rr_wM g bd σ1 hh) [0, 1, 2, 3, 4, 5, 6, 7, 8, 9, 10, 11, 12, 13, 14, 15, 16, 17, 18, 19, 20, 21, 22, 23, 24, 25, 26, 27, 28, 29, 30, 31, 32, 33, 34, 35, 36, 37, 38, 39, 40, 41, 42, 43, 44, 45, 46, 47, 48, 49, 50, 51, 52, 53, 54, 55, 56, 57, 58, 59, 60, 61, 62, 63, 64, 65] rfl
  have hD := hD.sub (ws' := rr_wC g a ad Ω1 ++ rr_wM g bd σ1 hh) [0, 1, 2, 3, 4, 5, 6, 7, 8, 9, 10, 11, 12, 13, 14, 15, 16, 17, 18, 19, 20, 21, 22, 23, 24, 25, 26, 27, 28, 29, 30, 31, 32, 33, 34, 35, 36, 37, 38, 39, 40, 41, 42, 43, 44, 45, 46, 47, 48, 49, 50, 51, 52, 53, 54, 55, 56, 57, 58, 59, 60, 61, 62, 63, 64, 65] (by decide) rfl
  refine lv_icmp_eq (tgt := 653) hx hb dL_law_197 (by decide) (fun _ => ?_) (fun c9 => absurd rfl c9)
  exact hk Ω1 σ1 hh ad _ _ ls hsim1 hP hD hS hl
set_option maxHeartbeats 4000000 in
set_option maxRecDepth 100000 in
theorem law_c2 {p : Program} {l : Launch} {e : Env} {s : State} {m : MethodId} {below : List Frame} {meth : Method} {c : Code} {b L : Nat} {xs : Nat → Int32} {g : rr_G} {Sim : Nat → (Nat → rr_T) → rr_T → Prop} (hok : rr_ok Sim) (C0 : lw_At p s m meth c b L xs) (hK : rr_K g s) (hL : L ≤ 1536) (i : Int) (hi : 0 ≤ i ∧ i + 3 ≤ (L : Int)) (k : Nat) (hk5 : k < 512) (Ω : Nat → rr_T) (σ : rr_T) (hh : Int) (a : Nat) (ad bd : Nat → Nat) (H : Heap) (locs : List Loc) (ls : Array Slot) : Sim k Ω σ → va_P g.1 vwCl (rr_wC g a ad Ω ++ rr_wM g bd σ hh) H → va_D (fun q : Nat => s.heap.size ≤ q) (rr_wC g a ad Ω ++ rr_wM g bd σ hh) → va_S (fun q : Nat => s.heap.size ≤ q) s.heap H locs → lv_has ls 4 [(0, .ref b), (1, .ref a), (2, .ref (bd 0)), (3, .int (rr_i i))] → (∀ (Ω : Nat → rr_T) (σ : rr_T) (hh : Int) (ad : Nat → Nat) (H : Heap) (locs : List Loc) (ls : Array Slot), Sim (k + 1) Ω σ → va_P g.1 vwCl (rr_wC g a ad Ω ++ rr_wM g bd σ hh) H → va_D (fun q : Nat => s.heap.size ≤ q) (rr_wC g a ad Ω ++ rr_wM g bd σ hh) → va_S (fun q : Nat => s.heap.size ≤ q) s.heap H locs → lv_has ls 4 [(0, .ref b), (1, .ref a), (2, .ref (bd 0)), (3, .int (rr_i i))] → W p l e room_1 s m #[Value.ref b] below meth c H locs 66 2940 (lw_Z below #[Value.ref b] s) (F0 m 653 ls [])) → W p l e room_1 s m #[Value.ref b] below meth c H locs 66 2940 (lw_Z below #[Value.ref b] s) (F0 m 202 ls []) := by
  intro hsim hP hD hS hl hk
  obtain ⟨hx, hb, hr, hml, hown, hts, hX, hbl, hlocks, hgv⟩ := C0
  have hts := fun w h => hts w (wsL_law_in w h)
  have hown : s.vm.findClass RL = some m.cls := hown
  have hA : ∀ q : Nat, s.heap.size ≤ q → (fun q : Nat => s.heap.size ≤ q) q := fun _ h => h
  have hbA : ¬ (fun q : Nat => s.heap.size ≤ q) b := Nat.not_le.mpr hbl
  obtain ⟨x, hxg, hxe⟩ : ∃ z : Int, rr_g z ∧ xs (rr_i (i + 1)).toNatClampNeg = rr_i z := ⟨_, rr_to_g _, (rr_i_to _).symm⟩
  obtain ⟨r, Ω1, σ1, h4, h5, hsim1⟩ := (hok.2.2.1) k Ω σ x hk5 hsim hxg
  refine lv_aload_n hx hb dL_law_202 rfl (lv_at hl 1 rfl) ?_
  refine lv_aload_n hx hb dL_law_203 rfl (lv_at hl 0 rfl) ?_
  refine lv_iload_n hx hb dL_law_204 rfl (lv_at hl 3 rfl) ?_
  refine rr_iconst hx hb dL_law_205 ?_
  refine rr_iadd hx hb dL_law_206 ?_
  refine va_sld hx hb hX hbl hbA hS (rr_in ⟨by omega, by omega⟩ (by omega)) dL_law_207 ?_
  rw [hxe]
  refine rr_partIx (wc := rr_wC g a ad Ω) (wr := rr_wM g bd σ hh) hP hD hS hA [0, 1, 2, 3, 4, 5, 6, 7, 8, 9, 10, 11, 12, 13, 14, 15, 16, 17, 18, 19, 20, 21, 22, 23, 24, 25, 26, 27, 28, 29, 30, 31, 32, 33, 34, 35, 36, 37, 38, 39, 40, 41, 42, 43, 44, 45, 46, 47, 48, 49, 50, 51] [52, 53, 54, 55, 56, 57, 58, 59, 60, 61, 62, 63, 64, 65] rfl rfl (by decide) (by decide) (va_runV (As := [.int (rr_i x)]) (rest := []) ⟨hx, hb, hml, hown, hts⟩ (kX4_goes l g a ad _ x Ω (r, Ω1) h4) (cwV 1 hts gL_law_X4_goes rfl rfl rfl ⟨rfl, hd_X4_goes⟩ ⟨Nat.le_of_ble_eq_true rfl, Nat.le_of_ble_eq_true rfl⟩) ⟨rr_P_blind, va_recv hK.1 (hP.sub (ws' := rr_wC g a ad Ω) [0, 1, 2, 3, 4, 5, 6, 7, 8, 9, 10, 11, 12, 13, 14, 15, 16, 17, 18, 19, 20, 21, 22, 23, 24, 25, 26, 27, 28, 29, 30, 31, 32, 33, 34, 35, 36, 37, 38, 39, 40, 41, 42, 43, 44, 45, 46, 47, 48, 49, 50, 51] rfl) (ci := 4) (q0 := 0) rfl rfl, rr_P_pre hK (hP.sub (ws' := rr_wC g a ad Ω) [0, 1, 2, 3, 4, 5, 6, 7, 8, 9, 10, 11, 12, 13, 14, 15, 16, 17, 18, 19, 20, 21, 22, 23, 24, 25, 26, 27, 28, 29, 30, 31, 32, 33, 34, 35, 36, 37, 38, 39, 40, 41, 42, 43, 44, 45, 46, 47, 48, 49, 50, 51] rfl) (hD.sub (ws' := rr_wC g a ad Ω) [0, 1, 2, 3, 4, 5, 6, 7, 8, 9, 10, 11, 12, 13, 14, 15, 16, 17, 18, 19, 20, 21, 22, 23, 24, 25, 26, 27, 28, 29, 30, 31, 32, 33, 34, 35, 36, 37, 38, 39, 40, 41, 42, 43, 44, 45, 46, 47, 48, 49, 50, 51] (by decide) rfl)⟩ rfl rfl hl.1 rfl (lv_room (Nat.le_of_ble_eq_true rfl)) dL_law_208 ⟨Nat.le_of_ble_eq_true rfl, Nat.le_of_ble_eq_true rfl⟩) (fun u H locs hP hD hS => ?_)
  have hP := hP.sub (ws' := rr_wC g a u Ω1 ++ rr_wM g bd σ hh) [14, 15, 16, 17, 18, 19, 20, 21, 22, 23, 24, 25, 26, 27, 28, 29, 30, 31, 32, 33, 34, 35, 36, 37, 38, 39, 40, 41, 42, 43, 44, 45, 46, 47, 48, 49, 50, 51, 52, 53, 54, 55, 56, 57, 58, 59, 60, 61, 62, 63, 64, 65, 0, 1, 2, 3, 4, 5, 6, 7, 8, 9, 10, 11, 12, 13] rfl
  have hD := hD.sub (ws' := rr_wC g a u Ω1 ++ rr_wM g bd σ hh) [14, 15, 16, 17, 18, 19, 20, 21, 22, 23, 24, 25, 26, 27, 28, 29, 30, 31, 32, 33, 34, 35, 36, 37, 38, 39, 40, 41, 42, 43, 44, 45, 46, 47, 48, 49, 50, 51, 52, 53, 54, 55, 56, 57, 58, 59, 60, 61, 62, 63, 64, 65, 0, 1, 2, 3, 4, 5, 6, 7, 8, 9, 10, 11, 12, 13] (by decide) rfl
  generalize u = ad at hP hD
  refine lv_aload_n hx hb dL_law_211 rfl (lv_at hl 2 rfl) ?_
  refine lv_aload_n hx hb dL_law_212 rfl (lv_at hl 0 rfl) ?_
  refine lv_iload_n hx hb dL_law_213 rfl (lv_at hl 3 rfl) ?_
  refine rr_iconst hx hb dL_law_214 ?_
  refine rr_iadd hx hb dL_law_215 ?_
  refine va_sld hx hb hX hbl hbA hS (rr_in ⟨by omega, by omega⟩ (by omega)) dL_law_216 ?_
  rw [hxe]
  refine rr_partI (wc := rr_wM g bd σ hh) (wr := rr_wC g a ad Ω1) hP hD hS hA [52, 53, 54, 55, 56, 57, 58, 59, 60, 61, 62, 63, 64, 65] [0, 1, 2, 3, 4, 5, 6, 7, 8, 9, 10, 11, 12, 13, 14, 15, 16, 17, 18, 19, 20, 21, 22, 23, 24, 25, 26, 27, 28, 29, 30, 31, 32, 33, 34, 35, 36, 37, 38, 39, 40, 41, 42, 43, 44, 45, 46, 47, 48, 49, 50, 51] rfl rfl (by decide) (by decide) (va_runV (As := [.int (rr_i x)]) (rest := [.int (rr_i r)]) ⟨hx, hb, hml, hown, hts⟩ (kX5_goes l g bd _ hh x σ (r, σ1) h5) (cwV 1 hts gL_law_X5_goes rfl rfl rfl ⟨rfl, hd_X5_goes⟩ ⟨Nat.le_of_ble_eq_true rfl, Nat.le_of_ble_eq_true rfl⟩) ⟨rr_P_blind, va_recv hK.1 (hP.sub (ws' := rr_wM g bd σ hh) [52, 53, 54, 55, 56, 57, 58, 59, 60, 61, 62, 63, 64, 65] rfl) (ci := 5) (q0 := 0) rfl rfl, rr_P_pre hK (hP.sub (ws' := rr_wM g bd σ hh) [52, 53, 54, 55, 56, 57, 58, 59, 60, 61, 62, 63, 64, 65] rfl) (hD.sub (ws' := rr_wM g bd σ hh) [52, 53, 54, 55, 56, 57, 58, 59, 60, 61, 62, 63, 64, 65] (by decide) rfl)⟩ rfl rfl hl.1 rfl (lv_room (Nat.le_of_ble_eq_true rfl)) dL_law_217 ⟨Nat.le_of_ble_eq_true rfl, Nat.le_of_ble_eq_true rfl⟩) (fun H locs hP hD hS => ?_)
  have hP := hP.sub (ws' := rr_wC g a ad Ω1 ++ rr_wM g bd σ1 hh) [0, 1, 2, 3, 4, 5, 6, 7, 8, 9, 10, 11, 12, 13, 14, 15, 16, 17, 18, 19, 20, 21, 22, 23, 24, 25, 26, 27, 28, 29, 30, 31, 32, 33, 34, 35, 36, 37, 38, 39, 40, 41, 42, 43, 44, 45, 46, 47, 48, 49, 50, 51, 52, 53, 54, 55, 56, 57, 58, 59, 60, 61, 62, 63, 64, 65] rfl
  have hD := hD.sub (ws' := rr_wC g a ad Ω1 ++ rr_wM g bd σ1 hh) [0, 1, 2, 3, 4, 5, 6, 7, 8, 9, 10, 11, 12, 13, 14, 15, 16, 17, 18, 19, 20, 21, 22, 23, 24, 25, 26, 27, 28, 29, 30, 31, 32, 33, 34, 35, 36, 37, 38, 39, 40, 41, 42, 43, 44, 45, 46, 47, 48, 49, 50, 51, 52, 53, 54, 55, 56, 57, 58, 59, 60, 61, 62, 63, 64, 65] (by decide) rfl
  refine lv_icmp_eq (tgt := 653) hx hb dL_law_220 (by decide) (fun _ => ?_) (fun c9 => absurd rfl c9)
  exact hk Ω1 σ1 hh ad _ _ ls hsim1 hP hD hS hl
set_option maxHeartbeats 4000000 in
set_option maxRecDepth 100000 in
theorem law_c3 {p : Program} {l : Launch} {e : Env} {s : State} {m : MethodId} {below : List Frame} {meth : Method} {c : Code} {b L : Nat} {xs : Nat → Int32} {g : rr_G} {Sim : Nat → (Nat → rr_T) → rr_T → Prop} (hok : rr_ok Sim) (C0 : lw_At p s m meth c b L xs) (hK : rr_K g s) (hL : L ≤ 1536) (i : Int) (hi : 0 ≤ i ∧ i + 3 ≤ (L : Int)) (k : Nat) (hk5 : k < 512) (Ω : Nat → rr_T) (σ : rr_T) (hh : Int) (a : Nat) (ad bd : Nat → Nat) (H : Heap) (locs : List Loc) (ls : Array Slot) : Sim k Ω σ → va_P g.1 vwCl (rr_wC g a ad Ω ++ rr_wM g bd σ hh) H → va_D (fun q : Nat => s.heap.size ≤ q) (rr_wC g a ad Ω ++ rr_wM g bd σ hh) → va_S (fun q : Nat => s.heap.size ≤ q) s.heap H locs → lv_has ls 4 [(0, .ref b), (1, .ref a), (2, .ref (bd 0)), (3, .int (rr_i i))] → (∀ (Ω : Nat → rr_T) (σ : rr_T) (hh : Int) (ad : Nat → Nat) (H : Heap) (locs : List Loc) (ls : Array Slot), Sim (k + 1) Ω σ → va_P g.1 vwCl (rr_wC g a ad Ω ++ rr_wM g bd σ hh) H → va_D (fun q : Nat => s.heap.size ≤ q) (rr_wC g a ad Ω ++ rr_wM g bd σ hh) → va_S (fun q : Nat => s.heap.size ≤ q) s.heap H locs → lv_has ls 4 [(0, .ref b), (1, .ref a), (2, .ref (bd 0)), (3, .int (rr_i i))] → W p l e room_1 s m #[Value.ref b] below meth c H locs 66 2940 (lw_Z below #[Value.ref b] s) (F0 m 653 ls [])) → W p l e room_1 s m #[Value.ref b] below meth c H locs 66 2940 (lw_Z below #[Value.ref b] s) (F0 m 225 ls []) := by
  intro hsim hP hD hS hl hk
  obtain ⟨hx, hb, hr, hml, hown, hts, hX, hbl, hlocks, hgv⟩ := C0
  have hts := fun w h => hts w (wsL_law_in w h)
  have hown : s.vm.findClass RL = some m.cls := hown
  have hA : ∀ q : Nat, s.heap.size ≤ q → (fun q : Nat => s.heap.size ≤ q) q := fun _ h => h
  have hbA : ¬ (fun q : Nat => s.heap.size ≤ q) b := Nat.not_le.mpr hbl
  obtain ⟨x, hxg, hxe⟩ : ∃ z : Int, rr_g z ∧ xs (rr_i (i + 1)).toNatClampNeg = rr_i z := ⟨_, rr_to_g _, (rr_i_to _).symm⟩
  obtain ⟨r, Ω1, σ1, h4, h5, hsim1⟩ := (hok.2.2.2.1) k Ω σ x hk5 hsim hxg
  refine lv_aload_n hx hb dL_law_225 rfl (lv_at hl 1 rfl) ?_
  refine lv_aload_n hx hb dL_law_226 rfl (lv_at hl 0 rfl) ?_
  refine lv_iload_n hx hb dL_law_227 rfl (lv_at hl 3 rfl) ?_
  refine rr_iconst hx hb dL_law_228 ?_
  refine rr_iadd hx hb dL_law_229 ?_
  refine va_sld hx hb hX hbl hbA hS (rr_in ⟨by omega, by omega⟩ (by omega)) dL_law_230 ?_
  rw [hxe]
  refine rr_partIx (wc := rr_wC g a ad Ω) (wr := rr_wM g bd σ hh) hP hD hS hA [0, 1, 2, 3, 4, 5, 6, 7, 8, 9, 10, 11, 12, 13, 14, 15, 16, 17, 18, 19, 20, 21, 22, 23, 24, 25, 26, 27, 28, 29, 30, 31, 32, 33, 34, 35, 36, 37, 38, 39, 40, 41, 42, 43, 44, 45, 46, 47, 48, 49, 50, 51] [52, 53, 54, 55, 56, 57, 58, 59, 60, 61, 62, 63, 64, 65] rfl rfl (by decide) (by decide) (va_runV (As := [.int (rr_i x)]) (rest := []) ⟨hx, hb, hml, hown, hts⟩ (kX4_key l g a ad _ x Ω (r, Ω1) h4) (cwV 1 hts gL_law_X4_key rfl rfl rfl ⟨rfl, hd_X4_key⟩ ⟨Nat.le_of_ble_eq_true rfl, Nat.le_of_ble_eq_true rfl⟩) ⟨rr_P_blind, va_recv hK.1 (hP.sub (ws' := rr_wC g a ad Ω) [0, 1, 2, 3, 4, 5, 6, 7, 8, 9, 10, 11, 12, 13, 14, 15, 16, 17, 18, 19, 20, 21, 22, 23, 24, 25, 26, 27, 28, 29, 30, 31, 32, 33, 34, 35, 36, 37, 38, 39, 40, 41, 42, 43, 44, 45, 46, 47, 48, 49, 50, 51] rfl) (ci := 4) (q0 := 0) rfl rfl, rr_P_pre hK (hP.sub (ws' := rr_wC g a ad Ω) [0, 1, 2, 3, 4, 5, 6, 7, 8, 9, 10, 11, 12, 13, 14, 15, 16, 17, 18, 19, 20, 21, 22, 23, 24, 25, 26, 27, 28, 29, 30, 31, 32, 33, 34, 35, 36, 37, 38, 39, 40, 41, 42, 43, 44, 45, 46, 47, 48, 49, 50, 51] rfl) (hD.sub (ws' := rr_wC g a ad Ω) [0, 1, 2, 3, 4, 5, 6, 7, 8, 9, 10, 11, 12, 13, 14, 15, 16, 17, 18, 19, 20, 21, 22, 23, 24, 25, 26, 27, 28, 29, 30, 31, 32, 33, 34, 35, 36, 37, 38, 39, 40, 41, 42, 43, 44, 45, 46, 47, 48, 49, 50, 51] (by decide) rfl)⟩ rfl rfl hl.1 rfl (lv_room (Nat.le_of_ble_eq_true rfl)) dL_law_231 ⟨Nat.le_of_ble_eq_true rfl, Nat.le_of_ble_eq_true rfl⟩) (fun u H locs hP hD hS => ?_)
  have hP := hP.sub (ws' := rr_wC g a u Ω1 ++ rr_wM g bd σ hh) [14, 15, 16, 17, 18, 19, 20, 21, 22, 23, 24, 25, 26, 27, 28, 29, 30, 31, 32, 33, 34, 35, 36, 37, 38, 39, 40, 41, 42, 43, 44, 45, 46, 47, 48, 49, 50, 51, 52, 53, 54, 55, 56, 57, 58, 59, 60, 61, 62, 63, 64, 65, 0, 1, 2, 3, 4, 5, 6, 7, 8, 9, 10, 11, 12, 13] rfl
  have hD := hD.sub (ws' := rr_wC g a u Ω1 ++ rr_wM g bd σ hh) [14, 15, 16, 17, 18, 19, 20, 21, 22, 23, 24, 25, 26, 27, 28, 29, 30, 31, 32, 33, 34, 35, 36, 37, 38, 39, 40, 41, 42, 43, 44, 45, 46, 47, 48, 49, 50, 51, 52, 53, 54, 55, 56, 57, 58, 59, 60, 61, 62, 63, 64, 65, 0, 1, 2, 3, 4, 5, 6, 7, 8, 9, 10, 11, 12, 13] (by decide) rfl
  generalize u = ad at hP hD
  refine lv_aload_n hx hb dL_law_234 rfl (lv_at hl 2 rfl) ?_
  refine lv_aload_n hx hb dL_law_235 rfl (lv_at hl 0 rfl) ?_
  refine lv_iload_n hx hb dL_law_236 rfl (lv_at hl 3 rfl) ?_
  refine rr_iconst hx hb dL_law_237 ?_
  refine rr_iadd hx hb dL_law_238 ?_
  refine va_sld hx hb hX hbl hbA hS (rr_in ⟨by omega, by omega⟩ (by omega)) dL_law_239 ?_
  rw [hxe]
  refine rr_partI (wc := rr_wM g bd σ hh) (wr := rr_wC g a ad Ω1) hP hD hS hA [52, 53, 54, 55, 56, 57, 58, 59, 60, 61, 62, 63, 64, 65] [0, 1, 2, 3, 4, 5, 6, 7, 8, 9, 10, 11, 12, 13, 14, 15, 16, 17, 18, 19, 20, 21, 22, 23, 24, 25, 26, 27, 28, 29, 30, 31, 32, 33, 34, 35, 36, 37, 38, 39, 40, 41, 42, 43, 44, 45, 46, 47, 48, 49, 50, 51] rfl rfl (by decide) (by decide) (va_runV (As := [.int (rr_i x)]) (rest := [.int (rr_i r)]) ⟨hx, hb, hml, hown, hts⟩ (kX5_key l g bd _ hh x σ (r, σ1) h5) (cwV 1 hts gL_law_X5_key rfl rfl rfl ⟨rfl, hd_X5_key⟩ ⟨Nat.le_of_ble_eq_true rfl, Nat.le_of_ble_eq_true rfl⟩) ⟨rr_P_blind, va_recv hK.1 (hP.sub (ws' := rr_wM g bd σ hh) [52, 53, 54, 55, 56, 57, 58, 59, 60, 61, 62, 63, 64, 65] rfl) (ci := 5) (q0 := 0) rfl rfl, rr_P_pre hK (hP.sub (ws' := rr_wM g bd σ hh) [52, 53, 54, 55, 56, 57, 58, 59, 60, 61, 62, 63, 64, 65] rfl) (hD.sub (ws' := rr_wM g bd σ hh) [52, 53, 54, 55, 56, 57, 58, 59, 60, 61, 62, 63, 64, 65] (by decide) rfl)⟩ rfl rfl hl.1 rfl (lv_room (Nat.le_of_ble_eq_true rfl)) dL_law_240 ⟨Nat.le_of_ble_eq_true rfl, Nat.le_of_ble_eq_true rfl⟩) (fun H locs hP hD hS => ?_)
  have hP := hP.sub (ws' := rr_wC g a ad Ω1 ++ rr_wM g bd σ1 hh) [0, 1, 2, 3, 4, 5, 6, 7, 8, 9, 10, 11, 12, 13, 14, 15, 16, 17, 18, 19, 20, 21, 22, 23, 24, 25, 26, 27, 28, 29, 30, 31, 32, 33, 34, 35, 36, 37, 38, 39, 40, 41, 42, 43, 44, 45, 46, 47, 48, 49, 50, 51, 52, 53, 54, 55, 56, 57, 58, 59, 60, 61, 62, 63, 64, 65] rfl
  have hD := hD.sub (ws' := rr_wC g a ad Ω1 ++ rr_wM g bd σ1 hh) [0, 1, 2, 3, 4, 5, 6, 7, 8, 9, 10, 11, 12, 13, 14, 15, 16, 17, 18, 19, 20, 21, 22, 23, 24, 25, 26, 27, 28, 29, 30, 31, 32, 33, 34, 35, 36, 37, 38, 39, 40, 41, 42, 43, 44, 45, 46, 47, 48, 49, 50, 51, 52, 53, 54, 55, 56, 57, 58, 59, 60, 61, 62, 63, 64, 65] (by decide) rfl
  refine lv_icmp_eq (tgt := 653) hx hb dL_law_243 (by decide) (fun _ => ?_) (fun c9 => absurd rfl c9)
  exact hk Ω1 σ1 hh ad _ _ ls hsim1 hP hD hS hl
set_option maxHeartbeats 4000000 in
set_option maxRecDepth 100000 in
theorem law_c4 {p : Program} {l : Launch} {e : Env} {s : State} {m : MethodId} {below : List Frame} {meth : Method} {c : Code} {b L : Nat} {xs : Nat → Int32} {g : rr_G} {Sim : Nat → (Nat → rr_T) → rr_T → Prop} (hok : rr_ok Sim) (C0 : lw_At p s m meth c b L xs) (hK : rr_K g s) (hL : L ≤ 1536) (i : Int) (hi : 0 ≤ i ∧ i + 3 ≤ (L : Int)) (k : Nat) (hk5 : k < 512) (Ω : Nat → rr_T) (σ : rr_T) (hh : Int) (a : Nat) (ad bd : Nat → Nat) (H : Heap) (locs : List Loc) (ls : Array Slot) : Sim k Ω σ → va_P g.1 vwCl (rr_wC g a ad Ω ++ rr_wM g bd σ hh) H → va_D (fun q : Nat => s.heap.size ≤ q) (rr_wC g a ad Ω ++ rr_wM g bd σ hh) → va_S (fun q : Nat => s.heap.size ≤ q) s.heap H locs → lv_has ls 4 [(0, .ref b), (1, .ref a), (2, .ref (bd 0)), (3, .int (rr_i i))] → (∀ (Ω : Nat → rr_T) (σ : rr_T) (hh : Int) (ad : Nat → Nat) (H : Heap) (locs : List Loc) (ls : Array Slot), Sim (k + 1) Ω σ → va_P g.1 vwCl (rr_wC g a ad Ω ++ rr_wM g bd σ hh) H → va_D (fun q : Nat => s.heap.size ≤ q) (rr_wC g a ad Ω ++ rr_wM g bd σ hh) → va_S (fun q : Nat => s.heap.size ≤ q) s.heap H locs → lv_has ls 4 [(0, .ref b), (1, .ref a), (2, .ref (bd 0)), (3, .int (rr_i i))] → W p l e room_1 s m #[Value.ref b] below meth c H locs 66 2940 (lw_Z below #[Value.ref b] s) (F0 m 653 ls [])) → W p l e room_1 s m #[Value.ref b] below meth c H locs 66 2940 (lw_Z below #[Value.ref b] s) (F0 m 248 ls []) := by
  intro hsim hP hD hS hl hk
  obtain ⟨hx, hb, hr, hml, hown, hts, hX, hbl, hlocks, hgv⟩ := C0
  have hts := fun w h => hts w (wsL_law_in w h)
  have hown : s.vm.findClass RL = some m.cls := hown
  have hA : ∀ q : Nat, s.heap.size ≤ q → (fun q : Nat => s.heap.size ≤ q) q := fun _ h => h
  have hbA : ¬ (fun q : Nat => s.heap.size ≤ q) b := Nat.not_le.mpr hbl
  obtain ⟨x, hxg, hxe⟩ : ∃ z : Int, rr_g z ∧ xs (rr_i (i + 1)).toNatClampNeg = rr_i z := ⟨_, rr_to_g _, (rr_i_to _).symm⟩
  obtain ⟨r, Ω1, σ1, h4, h5, hsim1⟩ := (hok.2.2.2.2.1) k Ω σ x hk5 hsim hxg
  refine lv_aload_n hx hb dL_law_248 rfl (lv_at hl 1 rfl) ?_
  refine lv_aload_n hx hb dL_law_249 rfl (lv_at hl 0 rfl) ?_
  refine lv_iload_n hx hb dL_law_250 rfl (lv_at hl 3 rfl) ?_
  refine rr_iconst hx hb dL_law_251 ?_
  refine rr_iadd hx hb dL_law_252 ?_
  refine va_sld hx hb hX hbl hbA hS (rr_in ⟨by omega, by omega⟩ (by omega)) dL_law_253 ?_
  rw [hxe]
  refine rr_partIx (wc := rr_wC g a ad Ω) (wr := rr_wM g bd σ hh) hP hD hS hA [0, 1, 2, 3, 4, 5, 6, 7, 8, 9, 10, 11, 12, 13, 14, 15, 16, 17, 18, 19, 20, 21, 22, 23, 24, 25, 26, 27, 28, 29, 30, 31, 32, 33, 34, 35, 36, 37, 38, 39, 40, 41, 42, 43, 44, 45, 46, 47, 48, 49, 50, 51] [52, 53, 54, 55, 56, 57, 58, 59, 60, 61, 62, 63, 64, 65] rfl rfl (by decide) (by decide) (va_runV (As := [.int (rr_i x)]) (rest := []) ⟨hx, hb, hml, hown, hts⟩ (kX4_drops l g a ad _ x Ω (r, Ω1) h4) (cwV 1 hts gL_law_X4_drops rfl rfl rfl ⟨rfl, hd_X4_drops⟩ ⟨Nat.le_of_ble_eq_true rfl, Nat.le_of_ble_eq_true rfl⟩) ⟨rr_P_blind, va_recv hK.1 (hP.sub (ws' := rr_wC g a ad Ω) [0, 1, 2, 3, 4, 5, 6, 7, 8, 9, 10, 11, 12, 13, 14, 15, 16, 17, 18, 19, 20, 21, 22, 23, 24, 25, 26, 27, 28, 29, 30, 31, 32, 33, 34, 35, 36, 37, 38, 39, 40, 41, 42, 43, 44, 45, 46, 47, 48, 49, 50, 51] rfl) (ci := 4) (q0 := 0) rfl rfl, rr_P_pre hK (hP.sub (ws' := rr_wC g a ad Ω) [0, 1, 2, 3, 4, 5, 6, 7, 8, 9, 10, 11, 12, 13, 14, 15, 16, 17, 18, 19, 20, 21, 22, 23, 24, 25, 26, 27, 28, 29, 30, 31, 32, 33, 34, 35, 36, 37, 38, 39, 40, 41, 42, 43, 44, 45, 46, 47, 48, 49, 50, 51] rfl) (hD.sub (ws' := rr_wC g a ad Ω) [0, 1, 2, 3, 4, 5, 6, 7, 8, 9, 10, 11, 12, 13, 14, 15, 16, 17, 18, 19, 20, 21, 22, 23, 24, 25, 26, 27, 28, 29, 30, 31, 32, 33, 34, 35, 36, 37, 38, 39, 40, 41, 42, 43, 44, 45, 46, 47, 48, 49, 50, 51] (by decide) rfl)⟩ rfl rfl hl.1 rfl (lv_room (Nat.le_of_ble_eq_true rfl)) dL_law_254 ⟨Nat.le_of_ble_eq_true rfl, Nat.le_of_ble_eq_true rfl⟩) (fun u H locs hP hD hS => ?_)
  have hP := hP.sub (ws' := rr_wC g a u Ω1 ++ rr_wM g bd σ hh) [14, 15, 16, 17, 18, 19, 20, 21, 22, 23, 24, 25, 26, 27, 28, 29, 30, 31, 32, 33, 34, 35, 36, 37, 38, 39, 40, 41, 42, 43, 44, 45, 46, 47, 48, 49, 50, 51, 52, 53, 54, 55, 56, 57, 58, 59, 60, 61, 62, 63, 64, 65, 0, 1, 2, 3, 4, 5, 6, 7, 8, 9, 10, 11, 12, 13] rfl
  have hD := hD.sub (ws' := rr_wC g a u Ω1 ++ rr_wM g bd σ hh) [14, 15, 16, 17, 18, 19, 20, 21, 22, 23, 24, 25, 26, 27, 28, 29, 30, 31, 32, 33, 34, 35, 36, 37, 38, 39, 40, 41, 42, 43, 44, 45, 46, 47, 48, 49, 50, 51, 52, 53, 54, 55, 56, 57, 58, 59, 60, 61, 62, 63, 64, 65, 0, 1, 2, 3, 4, 5, 6, 7, 8, 9, 10, 11, 12, 13] (by decide) rfl
  generalize u = ad at hP hD
  refine lv_aload_n hx hb dL_law_257 rfl (lv_at hl 2 rfl) ?_
  refine lv_aload_n hx hb dL_law_258 rfl (lv_at hl 0 rfl) ?_
  refine lv_iload_n hx hb dL_law_259 rfl (lv_at hl 3 rfl) ?_
  refine rr_iconst hx hb dL_law_260 ?_
  refine rr_iadd hx hb dL_law_261 ?_
  refine va_sld hx hb hX hbl hbA hS (rr_in ⟨by omega, by omega⟩ (by omega)) dL_law_262 ?_
  rw [hxe]
  refine rr_partI (wc := rr_wM g bd σ hh) (wr := rr_wC g a ad Ω1) hP hD hS hA [52, 53, 54, 55, 56, 57, 58, 59, 60, 61, 62, 63, 64, 65] [0, 1, 2, 3, 4, 5, 6, 7, 8, 9, 10, 11, 12, 13, 14, 15, 16, 17, 18, 19, 20, 21, 22, 23, 24, 25, 26, 27, 28, 29, 30, 31, 32, 33, 34, 35, 36, 37, 38, 39, 40, 41, 42, 43, 44, 45, 46, 47, 48, 49, 50, 51] rfl rfl (by decide) (by decide) (va_runV (As := [.int (rr_i x)]) (rest := [.int (rr_i r)]) ⟨hx, hb, hml, hown, hts⟩ (kX5_drops l g bd _ hh x σ (r, σ1) h5) (cwV 1 hts gL_law_X5_drops rfl rfl rfl ⟨rfl, hd_X5_drops⟩ ⟨Nat.le_of_ble_eq_true rfl, Nat.le_of_ble_eq_true rfl⟩) ⟨rr_P_blind, va_recv hK.1 (hP.sub (ws' := rr_wM g bd σ hh) [52, 53, 54, 55, 56, 57, 58, 59, 60, 61, 62, 63, 64, 65] rfl) (ci := 5) (q0 := 0) rfl rfl, rr_P_pre hK (hP.sub (ws' := rr_wM g bd σ hh) [52, 53, 54, 55, 56, 57, 58, 59, 60, 61, 62, 63, 64, 65] rfl) (hD.sub (ws' := rr_wM g bd σ hh) [52, 53, 54, 55, 56, 57, 58, 59, 60, 61, 62, 63, 64, 65] (by decide) rfl)⟩ rfl rfl hl.1 rfl (lv_room (Nat.le_of_ble_eq_true rfl)) dL_law_263 ⟨Nat.le_of_ble_eq_true rfl, Nat.le_of_ble_eq_true rfl⟩) (fun H locs hP hD hS => ?_)
  have hP := hP.sub (ws' := rr_wC g a ad Ω1 ++ rr_wM g bd σ1 hh) [0, 1, 2, 3, 4, 5, 6, 7, 8, 9, 10, 11, 12, 13, 14, 15, 16, 17, 18, 19, 20, 21, 22, 23, 24, 25, 26, 27, 28, 29, 30, 31, 32, 33, 34, 35, 36, 37, 38, 39, 40, 41, 42, 43, 44, 45, 46, 47, 48, 49, 50, 51, 52, 53, 54, 55, 56, 57, 58, 59, 60, 61, 62, 63, 64, 65] rfl
  have hD := hD.sub (ws' := rr_wC g a ad Ω1 ++ rr_wM g bd σ1 hh) [0, 1, 2, 3, 4, 5, 6, 7, 8, 9, 10, 11, 12, 13, 14, 15, 16, 17, 18, 19, 20, 21, 22, 23, 24, 25, 26, 27, 28, 29, 30, 31, 32, 33, 34, 35, 36, 37, 38, 39, 40, 41, 42, 43, 44, 45, 46, 47, 48, 49, 50, 51, 52, 53, 54, 55, 56, 57, 58, 59, 60, 61, 62, 63, 64, 65] (by decide) rfl
  refine lv_icmp_eq (tgt := 653) hx hb dL_law_266 (by decide) (fun _ => ?_) (fun c9 => absurd rfl c9)
  exact hk Ω1 σ1 hh ad _ _ ls hsim1 hP hD hS hl
set_option maxHeartbeats 4000000 in
set_option maxRecDepth 100000 in
theorem law_c5 {p : Program} {l : Launch} {e : Env} {s : State} {m : MethodId} {below : List Frame} {meth : Method} {c : Code} {b L : Nat} {xs : Nat → Int32} {g : rr_G} {Sim : Nat → (Nat → rr_T) → rr_T → Prop} (hok : rr_ok Sim) (C0 : lw_At p s m meth c b L xs) (hK : rr_K g s) (hL : L ≤ 1536) (i : Int) (hi : 0 ≤ i ∧ i + 3 ≤ (L : Int)) (k : Nat) (hk5 : k < 512) (Ω : Nat → rr_T) (σ : rr_T) (hh : Int) (a : Nat) (ad bd : Nat → Nat) (H : Heap) (locs : List Loc) (ls : Array Slot) : Sim k Ω σ → va_P g.1 vwCl (rr_wC g a ad Ω ++ rr_wM g bd σ hh) H → va_D (fun q : Nat => s.heap.size ≤ q) (rr_wC g a ad Ω ++ rr_wM g bd σ hh) → va_S (fun q : Nat => s.heap.size ≤ q) s.heap H locs → lv_has ls 4 [(0, .ref b), (1, .ref a), (2, .ref (bd 0)), (3, .int (rr_i i))] → (∀ (Ω : Nat → rr_T) (σ : rr_T) (hh : Int) (ad : Nat → Nat) (H : Heap) (locs : List Loc) (ls : Array Slot), Sim (k + 1) Ω σ → va_P g.1 vwCl (rr_wC g a ad Ω ++ rr_wM g bd σ hh) H → va_D (fun q : Nat => s.heap.size ≤ q) (rr_wC g a ad Ω ++ rr_wM g bd σ hh) → va_S (fun q : Nat => s.heap.size ≤ q) s.heap H locs → lv_has ls 4 [(0, .ref b), (1, .ref a), (2, .ref (bd 0)), (3, .int (rr_i i))] → W p l e room_1 s m #[Value.ref b] below meth c H locs 66 2940 (lw_Z below #[Value.ref b] s) (F0 m 653 ls [])) → W p l e room_1 s m #[Value.ref b] below meth c H locs 66 2940 (lw_Z below #[Value.ref b] s) (F0 m 271 ls []) := by
  intro hsim hP hD hS hl hk
  obtain ⟨hx, hb, hr, hml, hown, hts, hX, hbl, hlocks, hgv⟩ := C0
  have hts := fun w h => hts w (wsL_law_in w h)
  have hown : s.vm.findClass RL = some m.cls := hown
  have hA : ∀ q : Nat, s.heap.size ≤ q → (fun q : Nat => s.heap.size ≤ q) q := fun _ h => h
  have hbA : ¬ (fun q : Nat => s.heap.size ≤ q) b := Nat.not_le.mpr hbl
  obtain ⟨x, hxg, hxe⟩ : ∃ z : Int, rr_g z ∧ xs (rr_i (i + 1)).toNatClampNeg = rr_i z := ⟨_, rr_to_g _, (rr_i_to _).symm⟩
  obtain ⟨r, Ω1, σ1, h4, h5, hsim1⟩ := (hok.2.2.2.2.2.1) k Ω σ x hk5 hsim hxg
  refine lv_aload_n hx hb dL_law_271 rfl (lv_at hl 1 rfl) ?_
  refine lv_aload_n hx hb dL_law_272 rfl (lv_at hl 0 rfl) ?_
  refine lv_iload_n hx hb dL_law_273 rfl (lv_at hl 3 rfl) ?_
  refine rr_iconst hx hb dL_law_274 ?_
  refine rr_iadd hx hb dL_law_275 ?_
  refine va_sld hx hb hX hbl hbA hS (rr_in ⟨by omega, by omega⟩ (by omega)) dL_law_276 ?_
  rw [hxe]
  refine rr_partIx (wc := rr_wC g a ad Ω) (wr := rr_wM g bd σ hh) hP hD hS hA [0, 1, 2, 3, 4, 5, 6, 7, 8, 9, 10, 11, 12, 13, 14, 15, 16, 17, 18, 19, 20, 21, 22, 23, 24, 25, 26, 27, 28, 29, 30, 31, 32, 33, 34, 35, 36, 37, 38, 39, 40, 41, 42, 43, 44, 45, 46, 47, 48, 49, 50, 51] [52, 53, 54, 55, 56, 57, 58, 59, 60, 61, 62, 63, 64, 65] rfl rfl (by decide) (by decide) (va_runV (As := [.int (rr_i x)]) (rest := []) ⟨hx, hb, hml, hown, hts⟩ (kX4_extra l g a ad _ x Ω (r, Ω1) h4) (cwV 1 hts gL_law_X4_extra rfl rfl rfl ⟨rfl, hd_X4_extra⟩ ⟨Nat.le_of_ble_eq_true rfl, Nat.le_of_ble_eq_true rfl⟩) ⟨rr_P_blind, va_recv hK.1 (hP.sub (ws' := rr_wC g a ad Ω) [0, 1, 2, 3, 4, 5, 6, 7, 8, 9, 10, 11, 12, 13, 14, 15, 16, 17, 18, 19, 20, 21, 22, 23, 24, 25, 26, 27, 28, 29, 30, 31, 32, 33, 34, 35, 36, 37, 38, 39, 40, 41, 42, 43, 44, 45, 46, 47, 48, 49, 50, 51] rfl) (ci := 4) (q0 := 0) rfl rfl, rr_P_pre hK (hP.sub (ws' := rr_wC g a ad Ω) [0, 1, 2, 3, 4, 5, 6, 7, 8, 9, 10, 11, 12, 13, 14, 15, 16, 17, 18, 19, 20, 21, 22, 23, 24, 25, 26, 27, 28, 29, 30, 31, 32, 33, 34, 35, 36, 37, 38, 39, 40, 41, 42, 43, 44, 45, 46, 47, 48, 49, 50, 51] rfl) (hD.sub (ws' := rr_wC g a ad Ω) [0, 1, 2, 3, 4, 5, 6, 7, 8, 9, 10, 11, 12, 13, 14, 15, 16, 17, 18, 19, 20, 21, 22, 23, 24, 25, 26, 27, 28, 29, 30, 31, 32, 33, 34, 35, 36, 37, 38, 39, 40, 41, 42, 43, 44, 45, 46, 47, 48, 49, 50, 51] (by decide) rfl)⟩ rfl rfl hl.1 rfl (lv_room (Nat.le_of_ble_eq_true rfl)) dL_law_277 ⟨Nat.le_of_ble_eq_true rfl, Nat.le_of_ble_eq_true rfl⟩) (fun u H locs hP hD hS => ?_)
  have hP := hP.sub (ws' := rr_wC g a u Ω1 ++ rr_wM g bd σ hh) [14, 15, 16, 17, 18, 19, 20, 21, 22, 23, 24, 25, 26, 27, 28, 29, 30, 31, 32, 33, 34, 35, 36, 37, 38, 39, 40, 41, 42, 43, 44, 45, 46, 47, 48, 49, 50, 51, 52, 53, 54, 55, 56, 57, 58, 59, 60, 61, 62, 63, 64, 65, 0, 1, 2, 3, 4, 5, 6, 7, 8, 9, 10, 11, 12, 13] rfl
  have hD := hD.sub (ws' := rr_wC g a u Ω1 ++ rr_wM g bd σ hh) [14, 15, 16, 17, 18, 19, 20, 21, 22, 23, 24, 25, 26, 27, 28, 29, 30, 31, 32, 33, 34, 35, 36, 37, 38, 39, 40, 41, 42, 43, 44, 45, 46, 47, 48, 49, 50, 51, 52, 53, 54, 55, 56, 57, 58, 59, 60, 61, 62, 63, 64, 65, 0, 1, 2, 3, 4, 5, 6, 7, 8, 9, 10, 11, 12, 13] (by decide) rfl
  generalize u = ad at hP hD
  refine lv_aload_n hx hb dL_law_280 rfl (lv_at hl 2 rfl) ?_
  refine lv_aload_n hx hb dL_law_281 rfl (lv_at hl 0 rfl) ?_
  refine lv_iload_n hx hb dL_law_282 rfl (lv_at hl 3 rfl) ?_
  refine rr_iconst hx hb dL_law_283 ?_
  refine rr_iadd hx hb dL_law_284 ?_
  refine va_sld hx hb hX hbl hbA hS (rr_in ⟨by omega, by omega⟩ (by omega)) dL_law_285 ?_
  rw [hxe]
  refine rr_partI (wc := rr_wM g bd σ hh) (wr := rr_wC g a ad Ω1) hP hD hS hA [52, 53, 54, 55, 56, 57, 58, 59, 60, 61, 62, 63, 64, 65] [0, 1, 2, 3, 4, 5, 6, 7, 8, 9, 10, 11, 12, 13, 14, 15, 16, 17, 18, 19, 20, 21, 22, 23, 24, 25, 26, 27, 28, 29, 30, 31, 32, 33, 34, 35, 36, 37, 38, 39, 40, 41, 42, 43, 44, 45, 46, 47, 48, 49, 50, 51] rfl rfl (by decide) (by decide) (va_runV (As := [.int (rr_i x)]) (rest := [.int (rr_i r)]) ⟨hx, hb, hml, hown, hts⟩ (kX5_extra l g bd _ hh x σ (r, σ1) h5) (cwV 1 hts gL_law_X5_extra rfl rfl rfl ⟨rfl, hd_X5_extra⟩ ⟨Nat.le_of_ble_eq_true rfl, Nat.le_of_ble_eq_true rfl⟩) ⟨rr_P_blind, va_recv hK.1 (hP.sub (ws' := rr_wM g bd σ hh) [52, 53, 54, 55, 56, 57, 58, 59, 60, 61, 62, 63, 64, 65] rfl) (ci := 5) (q0 := 0) rfl rfl, rr_P_pre hK (hP.sub (ws' := rr_wM g bd σ hh) [52, 53, 54, 55, 56, 57, 58, 59, 60, 61, 62, 63, 64, 65] rfl) (hD.sub (ws' := rr_wM g bd σ hh) [52, 53, 54, 55, 56, 57, 58, 59, 60, 61, 62, 63, 64, 65] (by decide) rfl)⟩ rfl rfl hl.1 rfl (lv_room (Nat.le_of_ble_eq_true rfl)) dL_law_286 ⟨Nat.le_of_ble_eq_true rfl, Nat.le_of_ble_eq_true rfl⟩) (fun H locs hP hD hS => ?_)
  have hP := hP.sub (ws' := rr_wC g a ad Ω1 ++ rr_wM g bd σ1 hh) [0, 1, 2, 3, 4, 5, 6, 7, 8, 9, 10, 11, 12, 13, 14, 15, 16, 17, 18, 19, 20, 21, 22, 23, 24, 25, 26, 27, 28, 29, 30, 31, 32, 33, 34, 35, 36, 37, 38, 39, 40, 41, 42, 43, 44, 45, 46, 47, 48, 49, 50, 51, 52, 53, 54, 55, 56, 57, 58, 59, 60, 61, 62, 63, 64, 65] rfl
  have hD := hD.sub (ws' := rr_wC g a ad Ω1 ++ rr_wM g bd σ1 hh) [0, 1, 2, 3, 4, 5, 6, 7, 8, 9, 10, 11, 12, 13, 14, 15, 16, 17, 18, 19, 20, 21, 22, 23, 24, 25, 26, 27, 28, 29, 30, 31, 32, 33, 34, 35, 36, 37, 38, 39, 40, 41, 42, 43, 44, 45, 46, 47, 48, 49, 50, 51, 52, 53, 54, 55, 56, 57, 58, 59, 60, 61, 62, 63, 64, 65] (by decide) rfl
  refine lv_icmp_eq (tgt := 653) hx hb dL_law_289 (by decide) (fun _ => ?_) (fun c9 => absurd rfl c9)
  exact hk Ω1 σ1 hh ad _ _ ls hsim1 hP hD hS hl
set_option maxHeartbeats 4000000 in
set_option maxRecDepth 100000 in
theorem law_c6 {p : Program} {l : Launch} {e : Env} {s : State} {m : MethodId} {below : List Frame} {meth : Method} {c : Code} {b L : Nat} {xs : Nat → Int32} {g : rr_G} {Sim : Nat → (Nat → rr_T) → rr_T → Prop} (hok : rr_ok Sim) (C0 : lw_At p s m meth c b L xs) (hK : rr_K g s) (hL : L ≤ 1536) (i : Int) (hi : 0 ≤ i ∧ i + 3 ≤ (L : Int)) (k : Nat) (hk5 : k < 512) (Ω : Nat → rr_T) (σ : rr_T) (hh : Int) (a : Nat) (ad bd : Nat → Nat) (H : Heap) (locs : List Loc) (ls : Array Slot) : Sim k Ω σ → va_P g.1 vwCl (rr_wC g a ad Ω ++ rr_wM g bd σ hh) H → va_D (fun q : Nat => s.heap.size ≤ q) (rr_wC g a ad Ω ++ rr_wM g bd σ hh) → va_S (fun q : Nat => s.heap.size ≤ q) s.heap H locs → lv_has ls 4 [(0, .ref b), (1, .ref a), (2, .ref (bd 0)), (3, .int (rr_i i))] → (∀ (Ω : Nat → rr_T) (σ : rr_T) (hh : Int) (ad : Nat → Nat) (H : Heap) (locs : List Loc) (ls : Array Slot), Sim (k + 1) Ω σ → va_P g.1 vwCl (rr_wC g a ad Ω ++ rr_wM g bd σ hh) H → va_D (fun q : Nat => s.heap.size ≤ q) (rr_wC g a ad Ω ++ rr_wM g bd σ hh) → va_S (fun q : Nat => s.heap.size ≤ q) s.heap H locs → lv_has ls 4 [(0, .ref b), (1, .ref a), (2, .ref (bd 0)), (3, .int (rr_i i))] → W p l e room_1 s m #[Value.ref b] below meth c H locs 66 2940 (lw_Z below #[Value.ref b] s) (F0 m 653 ls [])) → W p l e room_1 s m #[Value.ref b] below meth c H locs 66 2940 (lw_Z below #[Value.ref b] s) (F0 m 294 ls []) := by
  intro hsim hP hD hS hl hk
  obtain ⟨hx, hb, hr, hml, hown, hts, hX, hbl, hlocks, hgv⟩ := C0
  have hts := fun w h => hts w (wsL_law_in w h)
  have hown : s.vm.findClass RL = some m.cls := hown
  have hA : ∀ q : Nat, s.heap.size ≤ q → (fun q : Nat => s.heap.size ≤ q) q := fun _ h => h
  have hbA : ¬ (fun q : Nat => s.heap.size ≤ q) b := Nat.not_le.mpr hbl
  obtain ⟨x, hxg, hxe⟩ : ∃ z : Int, rr_g z ∧ xs (rr_i (i + 1)).toNatClampNeg = rr_i z := ⟨_, rr_to_g _, (rr_i_to _).symm⟩
  obtain ⟨y, hyg, hye⟩ : ∃ z : Int, rr_g z ∧ xs (rr_i (i + 2)).toNatClampNeg = rr_i z := ⟨_, rr_to_g _, (rr_i_to _).symm⟩
  obtain ⟨r, Ω1, σ1, h4, h5, hsim1⟩ := (hok.2.2.2.2.2.2.1) k Ω σ x y hk5 hsim hxg hyg
  refine lv_aload_n hx hb dL_law_294 rfl (lv_at hl 1 rfl) ?_
  refine lv_aload_n hx hb dL_law_295 rfl (lv_at hl 0 rfl) ?_
  refine lv_iload_n hx hb dL_law_296 rfl (lv_at hl 3 rfl) ?_
  refine rr_iconst hx hb dL_law_297 ?_
  refine rr_iadd hx hb dL_law_298 ?_
  refine va_sld hx hb hX hbl hbA hS (rr_in ⟨by omega, by omega⟩ (by omega)) dL_law_299 ?_
  rw [hxe]
  refine lv_aload_n hx hb dL_law_300 rfl (lv_at hl 0 rfl) ?_
  refine lv_iload_n hx hb dL_law_301 rfl (lv_at hl 3 rfl) ?_
  refine rr_iconst hx hb dL_law_302 ?_
  refine rr_iadd hx hb dL_law_303 ?_
  refine va_sld hx hb hX hbl hbA hS (rr_in ⟨by omega, by omega⟩ (by omega)) dL_law_304 ?_
  rw [hye]
  refine rr_partI (wc := rr_wC g a ad Ω) (wr := rr_wM g bd σ hh) hP hD hS hA [0, 1, 2, 3, 4, 5, 6, 7, 8, 9, 10, 11, 12, 13, 14, 15, 16, 17, 18, 19, 20, 21, 22, 23, 24, 25, 26, 27, 28, 29, 30, 31, 32, 33, 34, 35, 36, 37, 38, 39, 40, 41, 42, 43, 44, 45, 46, 47, 48, 49, 50, 51] [52, 53, 54, 55, 56, 57, 58, 59, 60, 61, 62, 63, 64, 65] rfl rfl (by decide) (by decide) (va_runV (As := [.int (rr_i x), .int (rr_i y)]) (rest := []) ⟨hx, hb, hml, hown, hts⟩ (kX4_of l g a ad _ x y Ω (r, Ω1) h4) (cwV 2 hts gL_law_X4_of rfl rfl rfl ⟨rfl, hd_X4_of⟩ ⟨Nat.le_of_ble_eq_true rfl, Nat.le_of_ble_eq_true rfl⟩) ⟨rr_P_blind, va_recv hK.1 (hP.sub (ws' := rr_wC g a ad Ω) [0, 1, 2, 3, 4, 5, 6, 7, 8, 9, 10, 11, 12, 13, 14, 15, 16, 17, 18, 19, 20, 21, 22, 23, 24, 25, 26, 27, 28, 29, 30, 31, 32, 33, 34, 35, 36, 37, 38, 39, 40, 41, 42, 43, 44, 45, 46, 47, 48, 49, 50, 51] rfl) (ci := 4) (q0 := 0) rfl rfl, rr_P_pre hK (hP.sub (ws' := rr_wC g a ad Ω) [0, 1, 2, 3, 4, 5, 6, 7, 8, 9, 10, 11, 12, 13, 14, 15, 16, 17, 18, 19, 20, 21, 22, 23, 24, 25, 26, 27, 28, 29, 30, 31, 32, 33, 34, 35, 36, 37, 38, 39, 40, 41, 42, 43, 44, 45, 46, 47, 48, 49, 50, 51] rfl) (hD.sub (ws' := rr_wC g a ad Ω) [0, 1, 2, 3, 4, 5, 6, 7, 8, 9, 10, 11, 12, 13, 14, 15, 16, 17, 18, 19, 20, 21, 22, 23, 24, 25, 26, 27, 28, 29, 30, 31, 32, 33, 34, 35, 36, 37, 38, 39, 40, 41, 42, 43, 44, 45, 46, 47, 48, 49, 50, 51] (by decide) rfl)⟩ rfl rfl hl.1 rfl (lv_room (Nat.le_of_ble_eq_true rfl)) dL_law_305 ⟨Nat.le_of_ble_eq_true rfl, Nat.le_of_ble_eq_true rfl⟩) (fun H locs hP hD hS => ?_)
  have hP := hP.sub (ws' := rr_wC g a ad Ω1 ++ rr_wM g bd σ hh) [14, 15, 16, 17, 18, 19, 20, 21, 22, 23, 24, 25, 26, 27, 28, 29, 30, 31, 32, 33, 34, 35, 36, 37, 38, 39, 40, 41, 42, 43, 44, 45, 46, 47, 48, 49, 50, 51, 52, 53, 54, 55, 56, 57, 58, 59, 60, 61, 62, 63, 64, 65, 0, 1, 2, 3, 4, 5, 6, 7, 8, 9, 10, 11, 12, 13] rfl
  have hD := hD.sub (ws' := rr_wC g a ad Ω1 ++ rr_wM g bd σ hh) [14, 15, 16, 17, 18, 19, 20, 21, 22, 23, 24, 25, 26, 27, 28, 29, 30, 31, 32, 33, 34, 35, 36, 37, 38, 39, 40, 41, 42, 43, 44, 45, 46, 47, 48, 49, 50, 51, 52, 53, 54, 55, 56, 57, 58, 59, 60, 61, 62, 63, 64, 65, 0, 1, 2, 3, 4, 5, 6, 7, 8, 9, 10, 11, 12, 13] (by decide) rfl
  refine lv_aload_n hx hb dL_law_308 rfl (lv_at hl 2 rfl) ?_
  refine lv_aload_n hx hb dL_law_309 rfl (lv_at hl 0 rfl) ?_
  refine lv_iload_n hx hb dL_law_310 rfl (lv_at hl 3 rfl) ?_
  refine rr_iconst hx hb dL_law_311 ?_
  refine rr_iadd hx hb dL_law_312 ?_
  refine va_sld hx hb hX hbl hbA hS (rr_in ⟨by omega, by omega⟩ (by omega)) dL_law_313 ?_
  rw [hxe]
  refine lv_aload_n hx hb dL_law_314 rfl (lv_at hl 0 rfl) ?_
  refine lv_iload_n hx hb dL_law_315 rfl (lv_at hl 3 rfl) ?_
  refine rr_iconst hx hb dL_law_316 ?_
  refine rr_iadd hx hb dL_law_317 ?_
  refine va_sld hx hb hX hbl hbA hS (rr_in ⟨by omega, by omega⟩ (by omega)) dL_law_318 ?_
  rw [hye]
  refine rr_partI (wc := rr_wM g bd σ hh) (wr := rr_wC g a ad Ω1) hP hD hS hA [52, 53, 54, 55, 56, 57, 58, 59, 60, 61, 62, 63, 64, 65] [0, 1, 2, 3, 4, 5, 6, 7, 8, 9, 10, 11, 12, 13, 14, 15, 16, 17, 18, 19, 20, 21, 22, 23, 24, 25, 26, 27, 28, 29, 30, 31, 32, 33, 34, 35, 36, 37, 38, 39, 40, 41, 42, 43, 44, 45, 46, 47, 48, 49, 50, 51] rfl rfl (by decide) (by decide) (va_runV (As := [.int (rr_i x), .int (rr_i y)]) (rest := [.int (rr_i r)]) ⟨hx, hb, hml, hown, hts⟩ (kX5_of l g bd _ hh x y σ (r, σ1) h5) (cwV 2 hts gL_law_X5_of rfl rfl rfl ⟨rfl, hd_X5_of⟩ ⟨Nat.le_of_ble_eq_true rfl, Nat.le_of_ble_eq_true rfl⟩) ⟨rr_P_blind, va_recv hK.1 (hP.sub (ws' := rr_wM g bd σ hh) [52, 53, 54, 55, 56, 57, 58, 59, 60, 61, 62, 63, 64, 65] rfl) (ci := 5) (q0 := 0) rfl rfl, rr_P_pre hK (hP.sub (ws' := rr_wM g bd σ hh) [52, 53, 54, 55, 56, 57, 58, 59, 60, 61, 62, 63, 64, 65] rfl) (hD.sub (ws' := rr_wM g bd σ hh) [52, 53, 54, 55, 56, 57, 58, 59, 60, 61, 62, 63, 64, 65] (by decide) rfl)⟩ rfl rfl hl.1 rfl (lv_room (Nat.le_of_ble_eq_true rfl)) dL_law_319 ⟨Nat.le_of_ble_eq_true rfl, Nat.le_of_ble_eq_true rfl⟩) (fun H locs hP hD hS => ?_)
  have hP := hP.sub (ws' := rr_wC g a ad Ω1 ++ rr_wM g bd σ1 hh) [0, 1, 2, 3, 4, 5, 6, 7, 8, 9, 10, 11, 12, 13, 14, 15, 16, 17, 18, 19, 20, 21, 22, 23, 24, 25, 26, 27, 28, 29, 30, 31, 32, 33, 34, 35, 36, 37, 38, 39, 40, 41, 42, 43, 44, 45, 46, 47, 48, 49, 50, 51, 52, 53, 54, 55, 56, 57, 58, 59, 60, 61, 62, 63, 64, 65] rfl
  have hD := hD.sub (ws' := rr_wC g a ad Ω1 ++ rr_wM g bd σ1 hh) [0, 1, 2, 3, 4, 5, 6, 7, 8, 9, 10, 11, 12, 13, 14, 15, 16, 17, 18, 19, 20, 21, 22, 23, 24, 25, 26, 27, 28, 29, 30, 31, 32, 33, 34, 35, 36, 37, 38, 39, 40, 41, 42, 43, 44, 45, 46, 47, 48, 49, 50, 51, 52, 53, 54, 55, 56, 57, 58, 59, 60, 61, 62, 63, 64, 65] (by decide) rfl
  refine lv_icmp_eq (tgt := 653) hx hb dL_law_322 (by decide) (fun _ => ?_) (fun c9 => absurd rfl c9)
  exact hk Ω1 σ1 hh ad _ _ ls hsim1 hP hD hS hl
set_option maxHeartbeats 4000000 in
set_option maxRecDepth 100000 in
theorem law_c7 {p : Program} {l : Launch} {e : Env} {s : State} {m : MethodId} {below : List Frame} {meth : Method} {c : Code} {b L : Nat} {xs : Nat → Int32} {g : rr_G} {Sim : Nat → (Nat → rr_T) → rr_T → Prop} (hok : rr_ok Sim) (C0 : lw_At p s m meth c b L xs) (hK : rr_K g s) (hL : L ≤ 1536) (i : Int) (hi : 0 ≤ i ∧ i + 3 ≤ (L : Int)) (k : Nat) (hk5 : k < 512) (Ω : Nat → rr_T) (σ : rr_T) (hh : Int) (a : Nat) (ad bd : Nat → Nat) (H : Heap) (locs : List Loc) (ls : Array Slot) : Sim k Ω σ → va_P g.1 vwCl (rr_wC g a ad Ω ++ rr_wM g bd σ hh) H → va_D (fun q : Nat => s.heap.size ≤ q) (rr_wC g a ad Ω ++ rr_wM g bd σ hh) → va_S (fun q : Nat => s.heap.size ≤ q) s.heap H locs → lv_has ls 4 [(0, .ref b), (1, .ref a), (2, .ref (bd 0)), (3, .int (rr_i i))] → (∀ (Ω : Nat → rr_T) (σ : rr_T) (hh : Int) (ad : Nat → Nat) (H : Heap) (locs : List Loc) (ls : Array Slot), Sim (k + 1) Ω σ → va_P g.1 vwCl (rr_wC g a ad Ω ++ rr_wM g bd σ hh) H → va_D (fun q : Nat => s.heap.size ≤ q) (rr_wC g a ad Ω ++ rr_wM g bd σ hh) → va_S (fun q : Nat => s.heap.size ≤ q) s.heap H locs → lv_has ls 4 [(0, .ref b), (1, .ref a), (2, .ref (bd 0)), (3, .int (rr_i i))] → W p l e room_1 s m #[Value.ref b] below meth c H locs 66 2940 (lw_Z below #[Value.ref b] s) (F0 m 653 ls [])) → W p l e room_1 s m #[Value.ref b] below meth c H locs 66 2940 (lw_Z below #[Value.ref b] s) (F0 m 327 ls []) := by
  intro hsim hP hD hS hl hk
  obtain ⟨hx, hb, hr, hml, hown, hts, hX, hbl, hlocks, hgv⟩ := C0
  have hts := fun w h => hts w (wsL_law_in w h)
  have hown : s.vm.findClass RL = some m.cls := hown
  have hA : ∀ q : Nat, s.heap.size ≤ q → (fun q : Nat => s.heap.size ≤ q) q := fun _ h => h
  have hbA : ¬ (fun q : Nat => s.heap.size ≤ q) b := Nat.not_le.mpr hbl
  obtain ⟨x, hxg, hxe⟩ : ∃ z : Int, rr_g z ∧ xs (rr_i (i + 1)).toNatClampNeg = rr_i z := ⟨_, rr_to_g _, (rr_i_to _).symm⟩
  obtain ⟨y, hyg, hye⟩ : ∃ z : Int, rr_g z ∧ xs (rr_i (i + 2)).toNatClampNeg = rr_i z := ⟨_, rr_to_g _, (rr_i_to _).symm⟩
  obtain ⟨r, Ω1, σ1, h4, h5, hsim1⟩ := (hok.2.2.2.2.2.2.2.1) k Ω σ x y hk5 hsim hxg hyg
  refine lv_aload_n hx hb dL_law_327 rfl (lv_at hl 1 rfl) ?_
  refine lv_aload_n hx hb dL_law_328 rfl (lv_at hl 0 rfl) ?_
  refine lv_iload_n hx hb dL_law_329 rfl (lv_at hl 3 rfl) ?_
  refine rr_iconst hx hb dL_law_330 ?_
  refine rr_iadd hx hb dL_law_331 ?_
  refine va_sld hx hb hX hbl hbA hS (rr_in ⟨by omega, by omega⟩ (by omega)) dL_law_332 ?_
  rw [hxe]
  refine lv_aload_n hx hb dL_law_333 rfl (lv_at hl 0 rfl) ?_
  refine lv_iload_n hx hb dL_law_334 rfl (lv_at hl 3 rfl) ?_
  refine rr_iconst hx hb dL_law_335 ?_
  refine rr_iadd hx hb dL_law_336 ?_
  refine va_sld hx hb hX hbl hbA hS (rr_in ⟨by omega, by omega⟩ (by omega)) dL_law_337 ?_
  rw [hye]
  refine rr_partI (wc := rr_wC g a ad Ω) (wr := rr_wM g bd σ hh) hP hD hS hA [0, 1, 2, 3, 4, 5, 6, 7, 8, 9, 10, 11, 12, 13, 14, 15, 16, 17, 18, 19, 20, 21, 22, 23, 24, 25, 26, 27, 28, 29, 30, 31, 32, 33, 34, 35, 36, 37, 38, 39, 40, 41, 42, 43, 44, 45, 46, 47, 48, 49, 50, 51] [52, 53, 54, 55, 56, 57, 58, 59, 60, 61, 62, 63, 64, 65] rfl rfl (by decide) (by decide) (va_runV (As := [.int (rr_i x), .int (rr_i y)]) (rest := []) ⟨hx, hb, hml, hown, hts⟩ (kX4_mark l g a ad _ x y Ω (r, Ω1) h4) (cwV 2 hts gL_law_X4_mark rfl rfl rfl ⟨rfl, hd_X4_mark⟩ ⟨Nat.le_of_ble_eq_true rfl, Nat.le_of_ble_eq_true rfl⟩) ⟨rr_P_blind, va_recv hK.1 (hP.sub (ws' := rr_wC g a ad Ω) [0, 1, 2, 3, 4, 5, 6, 7, 8, 9, 10, 11, 12, 13, 14, 15, 16, 17, 18, 19, 20, 21, 22, 23, 24, 25, 26, 27, 28, 29, 30, 31, 32, 33, 34, 35, 36, 37, 38, 39, 40, 41, 42, 43, 44, 45, 46, 47, 48, 49, 50, 51] rfl) (ci := 4) (q0 := 0) rfl rfl, rr_P_pre hK (hP.sub (ws' := rr_wC g a ad Ω) [0, 1, 2, 3, 4, 5, 6, 7, 8, 9, 10, 11, 12, 13, 14, 15, 16, 17, 18, 19, 20, 21, 22, 23, 24, 25, 26, 27, 28, 29, 30, 31, 32, 33, 34, 35, 36, 37, 38, 39, 40, 41, 42, 43, 44, 45, 46, 47, 48, 49, 50, 51] rfl) (hD.sub (ws' := rr_wC g a ad Ω) [0, 1, 2, 3, 4, 5, 6, 7, 8, 9, 10, 11, 12, 13, 14, 15, 16, 17, 18, 19, 20, 21, 22, 23, 24, 25, 26, 27, 28, 29, 30, 31, 32, 33, 34, 35, 36, 37, 38, 39, 40, 41, 42, 43, 44, 45, 46, 47, 48, 49, 50, 51] (by decide) rfl)⟩ rfl rfl hl.1 rfl (lv_room (Nat.le_of_ble_eq_true rfl)) dL_law_338 ⟨Nat.le_of_ble_eq_true rfl, Nat.le_of_ble_eq_true rfl⟩) (fun H locs hP hD hS => ?_)
  have hP := hP.sub (ws' := rr_wC g a ad Ω1 ++ rr_wM g bd σ hh) [14, 15, 16, 17, 18, 19, 20, 21, 22, 23, 24, 25, 26, 27, 28, 29, 30, 31, 32, 33, 34, 35, 36, 37, 38, 39, 40, 41, 42, 43, 44, 45, 46, 47, 48, 49, 50, 51, 52, 53, 54, 55, 56, 57, 58, 59, 60, 61, 62, 63, 64, 65, 0, 1, 2, 3, 4, 5, 6, 7, 8, 9, 10, 11, 12, 13] rfl
  have hD := hD.sub (ws' := rr_wC g a ad Ω1 ++ rr_wM g bd σ hh) [14, 15, 16, 17, 18, 19, 20, 21, 22, 23, 24, 25, 26, 27, 28, 29, 30, 31, 32, 33, 34, 35, 36, 37, 38, 39, 40, 41, 42, 43, 44, 45, 46, 47, 48, 49, 50, 51, 52, 53, 54, 55, 56, 57, 58, 59, 60, 61, 62, 63, 64, 65, 0, 1, 2, 3, 4, 5, 6, 7, 8, 9, 10, 11, 12, 13] (by decide) rfl
  refine lv_aload_n hx hb dL_law_341 rfl (lv_at hl 2 rfl) ?_
  refine lv_aload_n hx hb dL_law_342 rfl (lv_at hl 0 rfl) ?_
  refine lv_iload_n hx hb dL_law_343 rfl (lv_at hl 3 rfl) ?_
  refine rr_iconst hx hb dL_law_344 ?_
  refine rr_iadd hx hb dL_law_345 ?_
  refine va_sld hx hb hX hbl hbA hS (rr_in ⟨by omega, by omega⟩ (by omega)) dL_law_346 ?_
  rw [hxe]
  refine lv_aload_n hx hb dL_law_347 rfl (lv_at hl 0 rfl) ?_
  refine lv_iload_n hx hb dL_law_348 rfl (lv_at hl 3 rfl) ?_
  refine rr_iconst hx hb dL_law_349 ?_
  refine rr_iadd hx hb dL_law_350 ?_
  refine va_sld hx hb hX hbl hbA hS (rr_in ⟨by omega, by omega⟩ (by omega)) dL_law_351 ?_
  rw [hye]
  refine rr_partI (wc := rr_wM g bd σ hh) (wr := rr_wC g a ad Ω1) hP hD hS hA [52, 53, 54, 55, 56, 57, 58, 59, 60, 61, 62, 63, 64, 65] [0, 1, 2, 3, 4, 5, 6, 7, 8, 9, 10, 11, 12, 13, 14, 15, 16, 17, 18, 19, 20, 21, 22, 23, 24, 25, 26, 27, 28, 29, 30, 31, 32, 33, 34, 35, 36, 37, 38, 39, 40, 41, 42, 43, 44, 45, 46, 47, 48, 49, 50, 51] rfl rfl (by decide) (by decide) (va_runV (As := [.int (rr_i x), .int (rr_i y)]) (rest := [.int (rr_i r)]) ⟨hx, hb, hml, hown, hts⟩ (kX5_mark l g bd _ hh x y σ (r, σ1) h5) (cwV 2 hts gL_law_X5_mark rfl rfl rfl ⟨rfl, hd_X5_mark⟩ ⟨Nat.le_of_ble_eq_true rfl, Nat.le_of_ble_eq_true rfl⟩) ⟨rr_P_blind, va_recv hK.1 (hP.sub (ws' := rr_wM g bd σ hh) [52, 53, 54, 55, 56, 57, 58, 59, 60, 61, 62, 63, 64, 65] rfl) (ci := 5) (q0 := 0) rfl rfl, rr_P_pre hK (hP.sub (ws' := rr_wM g bd σ hh) [52, 53, 54, 55, 56, 57, 58, 59, 60, 61, 62, 63, 64, 65] rfl) (hD.sub (ws' := rr_wM g bd σ hh) [52, 53, 54, 55, 56, 57, 58, 59, 60, 61, 62, 63, 64, 65] (by decide) rfl)⟩ rfl rfl hl.1 rfl (lv_room (Nat.le_of_ble_eq_true rfl)) dL_law_352 ⟨Nat.le_of_ble_eq_true rfl, Nat.le_of_ble_eq_true rfl⟩) (fun H locs hP hD hS => ?_)
  have hP := hP.sub (ws' := rr_wC g a ad Ω1 ++ rr_wM g bd σ1 hh) [0, 1, 2, 3, 4, 5, 6, 7, 8, 9, 10, 11, 12, 13, 14, 15, 16, 17, 18, 19, 20, 21, 22, 23, 24, 25, 26, 27, 28, 29, 30, 31, 32, 33, 34, 35, 36, 37, 38, 39, 40, 41, 42, 43, 44, 45, 46, 47, 48, 49, 50, 51, 52, 53, 54, 55, 56, 57, 58, 59, 60, 61, 62, 63, 64, 65] rfl
  have hD := hD.sub (ws' := rr_wC g a ad Ω1 ++ rr_wM g bd σ1 hh) [0, 1, 2, 3, 4, 5, 6, 7, 8, 9, 10, 11, 12, 13, 14, 15, 16, 17, 18, 19, 20, 21, 22, 23, 24, 25, 26, 27, 28, 29, 30, 31, 32, 33, 34, 35, 36, 37, 38, 39, 40, 41, 42, 43, 44, 45, 46, 47, 48, 49, 50, 51, 52, 53, 54, 55, 56, 57, 58, 59, 60, 61, 62, 63, 64, 65] (by decide) rfl
  refine lv_icmp_eq (tgt := 653) hx hb dL_law_355 (by decide) (fun _ => ?_) (fun c9 => absurd rfl c9)
  exact hk Ω1 σ1 hh ad _ _ ls hsim1 hP hD hS hl
set_option maxHeartbeats 4000000 in
set_option maxRecDepth 100000 in
theorem law_c8 {p : Program} {l : Launch} {e : Env} {s : State} {m : MethodId} {below : List Frame} {meth : Method} {c : Code} {b L : Nat} {xs : Nat → Int32} {g : rr_G} {Sim : Nat → (Nat → rr_T) → rr_T → Prop} (hok : rr_ok Sim) (C0 : lw_At p s m meth c b L xs) (hK : rr_K g s) (hL : L ≤ 1536) (i : Int) (hi : 0 ≤ i ∧ i + 3 ≤ (L : Int)) (k : Nat) (hk5 : k < 512) (Ω : Nat → rr_T) (σ : rr_T) (hh : Int) (a : Nat) (ad bd : Nat → Nat) (H : Heap) (locs : List Loc) (ls : Array Slot) : Sim k Ω σ → va_P g.1 vwCl (rr_wC g a ad Ω ++ rr_wM g bd σ hh) H → va_D (fun q : Nat => s.heap.size ≤ q) (rr_wC g a ad Ω ++ rr_wM g bd σ hh) → va_S (fun q : Nat => s.heap.size ≤ q) s.heap H locs → lv_has ls 4 [(0, .ref b), (1, .ref a), (2, .ref (bd 0)), (3, .int (rr_i i))] → (∀ (Ω : Nat → rr_T) (σ : rr_T) (hh : Int) (ad : Nat → Nat) (H : Heap) (locs : List Loc) (ls : Array Slot), Sim (k + 1) Ω σ → va_P g.1 vwCl (rr_wC g a ad Ω ++ rr_wM g bd σ hh) H → va_D (fun q : Nat => s.heap.size ≤ q) (rr_wC g a ad Ω ++ rr_wM g bd σ hh) → va_S (fun q : Nat => s.heap.size ≤ q) s.heap H locs → lv_has ls 4 [(0, .ref b), (1, .ref a), (2, .ref (bd 0)), (3, .int (rr_i i))] → W p l e room_1 s m #[Value.ref b] below meth c H locs 66 2940 (lw_Z below #[Value.ref b] s) (F0 m 653 ls [])) → W p l e room_1 s m #[Value.ref b] below meth c H locs 66 2940 (lw_Z below #[Value.ref b] s) (F0 m 360 ls []) := by
  intro hsim hP hD hS hl hk
  obtain ⟨hx, hb, hr, hml, hown, hts, hX, hbl, hlocks, hgv⟩ := C0
  have hts := fun w h => hts w (wsL_law_in w h)
  have hown : s.vm.findClass RL = some m.cls := hown
  have hA : ∀ q : Nat, s.heap.size ≤ q → (fun q : Nat => s.heap.size ≤ q) q := fun _ h => h
  have hbA : ¬ (fun q : Nat => s.heap.size ≤ q) b := Nat.not_le.mpr hbl
  obtain ⟨x, hxg, hxe⟩ : ∃ z : Int, rr_g z ∧ xs (rr_i (i + 1)).toNatClampNeg = rr_i z := ⟨_, rr_to_g _, (rr_i_to _).symm⟩
  obtain ⟨r, Ω1, σ1, h4, h5, hsim1⟩ := (hok.2.2.2.2.2.2.2.2.1) k Ω σ x hk5 hsim hxg
  refine lv_aload_n hx hb dL_law_360 rfl (lv_at hl 1 rfl) ?_
  refine lv_aload_n hx hb dL_law_361 rfl (lv_at hl 0 rfl) ?_
  refine lv_iload_n hx hb dL_law_362 rfl (lv_at hl 3 rfl) ?_
  refine rr_iconst hx hb dL_law_363 ?_
  refine rr_iadd hx hb dL_law_364 ?_
  refine va_sld hx hb hX hbl hbA hS (rr_in ⟨by omega, by omega⟩ (by omega)) dL_law_365 ?_
  rw [hxe]
  refine rr_partI (wc := rr_wC g a ad Ω) (wr := rr_wM g bd σ hh) hP hD hS hA [0, 1, 2, 3, 4, 5, 6, 7, 8, 9, 10, 11, 12, 13, 14, 15, 16, 17, 18, 19, 20, 21, 22, 23, 24, 25, 26, 27, 28, 29, 30, 31, 32, 33, 34, 35, 36, 37, 38, 39, 40, 41, 42, 43, 44, 45, 46, 47, 48, 49, 50, 51] [52, 53, 54, 55, 56, 57, 58, 59, 60, 61, 62, 63, 64, 65] rfl rfl (by decide) (by decide) (va_runV (As := [.int (rr_i x)]) (rest := []) ⟨hx, hb, hml, hown, hts⟩ (kX4_at l g a ad _ x Ω (r, Ω1) h4) (cwV 1 hts gL_law_X4_at rfl rfl rfl ⟨rfl, hd_X4_at⟩ ⟨Nat.le_of_ble_eq_true rfl, Nat.le_of_ble_eq_true rfl⟩) ⟨rr_P_blind, va_recv hK.1 (hP.sub (ws' := rr_wC g a ad Ω) [0, 1, 2, 3, 4, 5, 6, 7, 8, 9, 10, 11, 12, 13, 14, 15, 16, 17, 18, 19, 20, 21, 22, 23, 24, 25, 26, 27, 28, 29, 30, 31, 32, 33, 34, 35, 36, 37, 38, 39, 40, 41, 42, 43, 44, 45, 46, 47, 48, 49, 50, 51] rfl) (ci := 4) (q0 := 0) rfl rfl, rr_P_pre hK (hP.sub (ws' := rr_wC g a ad Ω) [0, 1, 2, 3, 4, 5, 6, 7, 8, 9, 10, 11, 12, 13, 14, 15, 16, 17, 18, 19, 20, 21, 22, 23, 24, 25, 26, 27, 28, 29, 30, 31, 32, 33, 34, 35, 36, 37, 38, 39, 40, 41, 42, 43, 44, 45, 46, 47, 48, 49, 50, 51] rfl) (hD.sub (ws' := rr_wC g a ad Ω) [0, 1, 2, 3, 4, 5, 6, 7, 8, 9, 10, 11, 12, 13, 14, 15, 16, 17, 18, 19, 20, 21, 22, 23, 24, 25, 26, 27, 28, 29, 30, 31, 32, 33, 34, 35, 36, 37, 38, 39, 40, 41, 42, 43, 44, 45, 46, 47, 48, 49, 50, 51] (by decide) rfl)⟩ rfl rfl hl.1 rfl (lv_room (Nat.le_of_ble_eq_true rfl)) dL_law_366 ⟨Nat.le_of_ble_eq_true rfl, Nat.le_of_ble_eq_true rfl⟩) (fun H locs hP hD hS => ?_)
  have hP := hP.sub (ws' := rr_wC g a ad Ω1 ++ rr_wM g bd σ hh) [14, 15, 16, 17, 18, 19, 20, 21, 22, 23, 24, 25, 26, 27, 28, 29, 30, 31, 32, 33, 34, 35, 36, 37, 38, 39, 40, 41, 42, 43, 44, 45, 46, 47, 48, 49, 50, 51, 52, 53, 54, 55, 56, 57, 58, 59, 60, 61, 62, 63, 64, 65, 0, 1, 2, 3, 4, 5, 6, 7, 8, 9, 10, 11, 12, 13] rfl
  have hD := hD.sub (ws' := rr_wC g a ad Ω1 ++ rr_wM g bd σ hh) [14, 15, 16, 17, 18, 19, 20, 21, 22, 23, 24, 25, 26, 27, 28, 29, 30, 31, 32, 33, 34, 35, 36, 37, 38, 39, 40, 41, 42, 43, 44, 45, 46, 47, 48, 49, 50, 51, 52, 53, 54, 55, 56, 57, 58, 59, 60, 61, 62, 63, 64, 65, 0, 1, 2, 3, 4, 5, 6, 7, 8, 9, 10, 11, 12, 13] (by decide) rfl
  refine lv_aload_n hx hb dL_law_369 rfl (lv_at hl 2 rfl) ?_
  refine lv_aload_n hx hb dL_law_370 rfl (lv_at hl 0 rfl) ?_
  refine lv_iload_n hx hb dL_law_371 rfl (lv_at hl 3 rfl) ?_
  refine rr_iconst hx hb dL_law_372 ?_
  refine rr_iadd hx hb dL_law_373 ?_
  refine va_sld hx hb hX hbl hbA hS (rr_in ⟨by omega, by omega⟩ (by omega)) dL_law_374 ?_
  rw [hxe]
  refine rr_partI (wc := rr_wM g bd σ hh) (wr := rr_wC g a ad Ω1) hP hD hS hA [52, 53, 54, 55, 56, 57, 58, 59, 60, 61, 62, 63, 64, 65] [0, 1, 2, 3, 4, 5, 6, 7, 8, 9, 10, 11, 12, 13, 14, 15, 16, 17, 18, 19, 20, 21, 22, 23, 24, 25, 26, 27, 28, 29, 30, 31, 32, 33, 34, 35, 36, 37, 38, 39, 40, 41, 42, 43, 44, 45, 46, 47, 48, 49, 50, 51] rfl rfl (by decide) (by decide) (va_runV (As := [.int (rr_i x)]) (rest := [.int (rr_i r)]) ⟨hx, hb, hml, hown, hts⟩ (kX5_at l g bd _ hh x σ (r, σ1) h5) (cwV 1 hts gL_law_X5_at rfl rfl rfl ⟨rfl, hd_X5_at⟩ ⟨Nat.le_of_ble_eq_true rfl, Nat.le_of_ble_eq_true rfl⟩) ⟨rr_P_blind, va_recv hK.1 (hP.sub (ws' := rr_wM g bd σ hh) [52, 53, 54, 55, 56, 57, 58, 59, 60, 61, 62, 63, 64, 65] rfl) (ci := 5) (q0 := 0) rfl rfl, rr_P_pre hK (hP.sub (ws' := rr_wM g bd σ hh) [52, 53, 54, 55, 56, 57, 58, 59, 60, 61, 62, 63, 64, 65] rfl) (hD.sub (ws' := rr_wM g bd σ hh) [52, 53, 54, 55, 56, 57, 58, 59, 60, 61, 62, 63, 64, 65] (by decide) rfl)⟩ rfl rfl hl.1 rfl (lv_room (Nat.le_of_ble_eq_true rfl)) dL_law_375 ⟨Nat.le_of_ble_eq_true rfl, Nat.le_of_ble_eq_true rfl⟩) (fun H locs hP hD hS => ?_)
  have hP := hP.sub (ws' := rr_wC g a ad Ω1 ++ rr_wM g bd σ1 hh) [0, 1, 2, 3, 4, 5, 6, 7, 8, 9, 10, 11, 12, 13, 14, 15, 16, 17, 18, 19, 20, 21, 22, 23, 24, 25, 26, 27, 28, 29, 30, 31, 32, 33, 34, 35, 36, 37, 38, 39, 40, 41, 42, 43, 44, 45, 46, 47, 48, 49, 50, 51, 52, 53, 54, 55, 56, 57, 58, 59, 60, 61, 62, 63, 64, 65] rfl
  have hD := hD.sub (ws' := rr_wC g a ad Ω1 ++ rr_wM g bd σ1 hh) [0, 1, 2, 3, 4, 5, 6, 7, 8, 9, 10, 11, 12, 13, 14, 15, 16, 17, 18, 19, 20, 21, 22, 23, 24, 25, 26, 27, 28, 29, 30, 31, 32, 33, 34, 35, 36, 37, 38, 39, 40, 41, 42, 43, 44, 45, 46, 47, 48, 49, 50, 51, 52, 53, 54, 55, 56, 57, 58, 59, 60, 61, 62, 63, 64, 65] (by decide) rfl
  refine lv_icmp_eq (tgt := 653) hx hb dL_law_378 (by decide) (fun _ => ?_) (fun c9 => absurd rfl c9)
  exact hk Ω1 σ1 hh ad _ _ ls hsim1 hP hD hS hl
set_option maxHeartbeats 4000000 in
set_option maxRecDepth 100000 in
theorem law_c9 {p : Program} {l : Launch} {e : Env} {s : State} {m : MethodId} {below : List Frame} {meth : Method} {c : Code} {b L : Nat} {xs : Nat → Int32} {g : rr_G} {Sim : Nat → (Nat → rr_T) → rr_T → Prop} (hok : rr_ok Sim) (C0 : lw_At p s m meth c b L xs) (hK : rr_K g s) (hL : L ≤ 1536) (i : Int) (hi : 0 ≤ i ∧ i + 3 ≤ (L : Int)) (k : Nat) (hk5 : k < 512) (Ω : Nat → rr_T) (σ : rr_T) (hh : Int) (a : Nat) (ad bd : Nat → Nat) (H : Heap) (locs : List Loc) (ls : Array Slot) : Sim k Ω σ → va_P g.1 vwCl (rr_wC g a ad Ω ++ rr_wM g bd σ hh) H → va_D (fun q : Nat => s.heap.size ≤ q) (rr_wC g a ad Ω ++ rr_wM g bd σ hh) → va_S (fun q : Nat => s.heap.size ≤ q) s.heap H locs → lv_has ls 4 [(0, .ref b), (1, .ref a), (2, .ref (bd 0)), (3, .int (rr_i i))] → (∀ (Ω : Nat → rr_T) (σ : rr_T) (hh : Int) (ad : Nat → Nat) (H : Heap) (locs : List Loc) (ls : Array Slot), Sim (k + 1) Ω σ → va_P g.1 vwCl (rr_wC g a ad Ω ++ rr_wM g bd σ hh) H → va_D (fun q : Nat => s.heap.size ≤ q) (rr_wC g a ad Ω ++ rr_wM g bd σ hh) → va_S (fun q : Nat => s.heap.size ≤ q) s.heap H locs → lv_has ls 4 [(0, .ref b), (1, .ref a), (2, .ref (bd 0)), (3, .int (rr_i i))] → W p l e room_1 s m #[Value.ref b] below meth c H locs 66 2940 (lw_Z below #[Value.ref b] s) (F0 m 653 ls [])) → W p l e room_1 s m #[Value.ref b] below meth c H locs 66 2940 (lw_Z below #[Value.ref b] s) (F0 m 383 ls []) := by
  intro hsim hP hD hS hl hk
  obtain ⟨hx, hb, hr, hml, hown, hts, hX, hbl, hlocks, hgv⟩ := C0
  have hts := fun w h => hts w (wsL_law_in w h)
  have hown : s.vm.findClass RL = some m.cls := hown
  have hA : ∀ q : Nat, s.heap.size ≤ q → (fun q : Nat => s.heap.size ≤ q) q := fun _ h => h
  have hbA : ¬ (fun q : Nat => s.heap.size ≤ q) b := Nat.not_le.mpr hbl
  obtain ⟨x, hxg, hxe⟩ : ∃ z : Int, rr_g z ∧ xs (rr_i (i + 1)).toNatClampNeg = rr_i z := ⟨_, rr_to_g _, (rr_i_to _).symm⟩
  obtain ⟨r, Ω1, σ1, h4, h5, hsim1⟩ := (hok.2.2.2.2.2.2.2.2.2.1) k Ω σ x hk5 hsim hxg
  refine lv_aload_n hx hb dL_law_383 rfl (lv_at hl 1 rfl) ?_
  refine lv_aload_n hx hb dL_law_384 rfl (lv_at hl 0 rfl) ?_
  refine lv_iload_n hx hb dL_law_385 rfl (lv_at hl 3 rfl) ?_
  refine rr_iconst hx hb dL_law_386 ?_
  refine rr_iadd hx hb dL_law_387 ?_
  refine va_sld hx hb hX hbl hbA hS (rr_in ⟨by omega, by omega⟩ (by omega)) dL_law_388 ?_
  rw [hxe]
  refine rr_partI (wc := rr_wC g a ad Ω) (wr := rr_wM g bd σ hh) hP hD hS hA [0, 1, 2, 3, 4, 5, 6, 7, 8, 9, 10, 11, 12, 13, 14, 15, 16, 17, 18, 19, 20, 21, 22, 23, 24, 25, 26, 27, 28, 29, 30, 31, 32, 33, 34, 35, 36, 37, 38, 39, 40, 41, 42, 43, 44, 45, 46, 47, 48, 49, 50, 51] [52, 53, 54, 55, 56, 57, 58, 59, 60, 61, 62, 63, 64, 65] rfl rfl (by decide) (by decide) (va_runV (As := [.int (rr_i x)]) (rest := []) ⟨hx, hb, hml, hown, hts⟩ (kX4_name l g a ad _ x Ω (r, Ω1) h4) (cwV 1 hts gL_law_X4_name rfl rfl rfl ⟨rfl, hd_X4_name⟩ ⟨Nat.le_of_ble_eq_true rfl, Nat.le_of_ble_eq_true rfl⟩) ⟨rr_P_blind, va_recv hK.1 (hP.sub (ws' := rr_wC g a ad Ω) [0, 1, 2, 3, 4, 5, 6, 7, 8, 9, 10, 11, 12, 13, 14, 15, 16, 17, 18, 19, 20, 21, 22, 23, 24, 25, 26, 27, 28, 29, 30, 31, 32, 33, 34, 35, 36, 37, 38, 39, 40, 41, 42, 43, 44, 45, 46, 47, 48, 49, 50, 51] rfl) (ci := 4) (q0 := 0) rfl rfl, rr_P_pre hK (hP.sub (ws' := rr_wC g a ad Ω) [0, 1, 2, 3, 4, 5, 6, 7, 8, 9, 10, 11, 12, 13, 14, 15, 16, 17, 18, 19, 20, 21, 22, 23, 24, 25, 26, 27, 28, 29, 30, 31, 32, 33, 34, 35, 36, 37, 38, 39, 40, 41, 42, 43, 44, 45, 46, 47, 48, 49, 50, 51] rfl) (hD.sub (ws' := rr_wC g a ad Ω) [0, 1, 2, 3, 4, 5, 6, 7, 8, 9, 10, 11, 12, 13, 14, 15, 16, 17, 18, 19, 20, 21, 22, 23, 24, 25, 26, 27, 28, 29, 30, 31, 32, 33, 34, 35, 36, 37, 38, 39, 40, 41, 42, 43, 44, 45, 46, 47, 48, 49, 50, 51] (by decide) rfl)⟩ rfl rfl hl.1 rfl (lv_room (Nat.le_of_ble_eq_true rfl)) dL_law_389 ⟨Nat.le_of_ble_eq_true rfl, Nat.le_of_ble_eq_true rfl⟩) (fun H locs hP hD hS => ?_)
  have hP := hP.sub (ws' := rr_wC g a ad Ω1 ++ rr_wM g bd σ hh) [14, 15, 16, 17, 18, 19, 20, 21, 22, 23, 24, 25, 26, 27, 28, 29, 30, 31, 32, 33, 34, 35, 36, 37, 38, 39, 40, 41, 42, 43, 44, 45, 46, 47, 48, 49, 50, 51, 52, 53, 54, 55, 56, 57, 58, 59, 60, 61, 62, 63, 64, 65, 0, 1, 2, 3, 4, 5, 6, 7, 8, 9, 10, 11, 12, 13] rfl
  have hD := hD.sub (ws' := rr_wC g a ad Ω1 ++ rr_wM g bd σ hh) [14, 15, 16, 17, 18, 19, 20, 21, 22, 23, 24, 25, 26, 27, 28, 29, 30, 31, 32, 33, 34, 35, 36, 37, 38, 39, 40, 41, 42, 43, 44, 45, 46, 47, 48, 49, 50, 51, 52, 53, 54, 55, 56, 57, 58, 59, 60, 61, 62, 63, 64, 65, 0, 1, 2, 3, 4, 5, 6, 7, 8, 9, 10, 11, 12, 13] (by decide) rfl
  refine lv_aload_n hx hb dL_law_392 rfl (lv_at hl 2 rfl) ?_
  refine lv_aload_n hx hb dL_law_393 rfl (lv_at hl 0 rfl) ?_
  refine lv_iload_n hx hb dL_law_394 rfl (lv_at hl 3 rfl) ?_
  refine rr_iconst hx hb dL_law_395 ?_
  refine rr_iadd hx hb dL_law_396 ?_
  refine va_sld hx hb hX hbl hbA hS (rr_in ⟨by omega, by omega⟩ (by omega)) dL_law_397 ?_
  rw [hxe]
  refine rr_partI (wc := rr_wM g bd σ hh) (wr := rr_wC g a ad Ω1) hP hD hS hA [52, 53, 54, 55, 56, 57, 58, 59, 60, 61, 62, 63, 64, 65] [0, 1, 2, 3, 4, 5, 6, 7, 8, 9, 10, 11, 12, 13, 14, 15, 16, 17, 18, 19, 20, 21, 22, 23, 24, 25, 26, 27, 28, 29, 30, 31, 32, 33, 34, 35, 36, 37, 38, 39, 40, 41, 42, 43, 44, 45, 46, 47, 48, 49, 50, 51] rfl rfl (by decide) (by decide) (va_runV (As := [.int (rr_i x)]) (rest := [.int (rr_i r)]) ⟨hx, hb, hml, hown, hts⟩ (kX5_name l g bd _ hh x σ (r, σ1) h5) (cwV 1 hts gL_law_X5_name rfl rfl rfl ⟨rfl, hd_X5_name⟩ ⟨Nat.le_of_ble_eq_true rfl, Nat.le_of_ble_eq_true rfl⟩) ⟨rr_P_blind, va_recv hK.1 (hP.sub (ws' := rr_wM g bd σ hh) [52, 53, 54, 55, 56, 57, 58, 59, 60, 61, 62, 63, 64, 65] rfl) (ci := 5) (q0 := 0) rfl rfl, rr_P_pre hK (hP.sub (ws' := rr_wM g bd σ hh) [52, 53, 54, 55, 56, 57, 58, 59, 60, 61, 62, 63, 64, 65] rfl) (hD.sub (ws' := rr_wM g bd σ hh) [52, 53, 54, 55, 56, 57, 58, 59, 60, 61, 62, 63, 64, 65] (by decide) rfl)⟩ rfl rfl hl.1 rfl (lv_room (Nat.le_of_ble_eq_true rfl)) dL_law_398 ⟨Nat.le_of_ble_eq_true rfl, Nat.le_of_ble_eq_true rfl⟩) (fun H locs hP hD hS => ?_)
  have hP := hP.sub (ws' := rr_wC g a ad Ω1 ++ rr_wM g bd σ1 hh) [0, 1, 2, 3, 4, 5, 6, 7, 8, 9, 10, 11, 12, 13, 14, 15, 16, 17, 18, 19, 20, 21, 22, 23, 24, 25, 26, 27, 28, 29, 30, 31, 32, 33, 34, 35, 36, 37, 38, 39, 40, 41, 42, 43, 44, 45, 46, 47, 48, 49, 50, 51, 52, 53, 54, 55, 56, 57, 58, 59, 60, 61, 62, 63, 64, 65] rfl
  have hD := hD.sub (ws' := rr_wC g a ad Ω1 ++ rr_wM g bd σ1 hh) [0, 1, 2, 3, 4, 5, 6, 7, 8, 9, 10, 11, 12, 13, 14, 15, 16, 17, 18, 19, 20, 21, 22, 23, 24, 25, 26, 27, 28, 29, 30, 31, 32, 33, 34, 35, 36, 37, 38, 39, 40, 41, 42, 43, 44, 45, 46, 47, 48, 49, 50, 51, 52, 53, 54, 55, 56, 57, 58, 59, 60, 61, 62, 63, 64, 65] (by decide) rfl
  refine lv_icmp_eq (tgt := 653) hx hb dL_law_401 (by decide) (fun _ => ?_) (fun c9 => absurd rfl c9)
  exact hk Ω1 σ1 hh ad _ _ ls hsim1 hP hD hS hl
set_option maxHeartbeats 4000000 in
set_option maxRecDepth 100000 in
theorem law_c10 {p : Program} {l : Launch} {e : Env} {s : State} {m : MethodId} {below : List Frame} {meth : Method} {c : Code} {b L : Nat} {xs : Nat → Int32} {g : rr_G} {Sim : Nat → (Nat → rr_T) → rr_T → Prop} (hok : rr_ok Sim) (C0 : lw_At p s m meth c b L xs) (hK : rr_K g s) (hL : L ≤ 1536) (i : Int) (hi : 0 ≤ i ∧ i + 3 ≤ (L : Int)) (k : Nat) (hk5 : k < 512) (Ω : Nat → rr_T) (σ : rr_T) (hh : Int) (a : Nat) (ad bd : Nat → Nat) (H : Heap) (locs : List Loc) (ls : Array Slot) : Sim k Ω σ → va_P g.1 vwCl (rr_wC g a ad Ω ++ rr_wM g bd σ hh) H → va_D (fun q : Nat => s.heap.size ≤ q) (rr_wC g a ad Ω ++ rr_wM g bd σ hh) → va_S (fun q : Nat => s.heap.size ≤ q) s.heap H locs → lv_has ls 4 [(0, .ref b), (1, .ref a), (2, .ref (bd 0)), (3, .int (rr_i i))] → (∀ (Ω : Nat → rr_T) (σ : rr_T) (hh : Int) (ad : Nat → Nat) (H : Heap) (locs : List Loc) (ls : Array Slot), Sim (k + 1) Ω σ → va_P g.1 vwCl (rr_wC g a ad Ω ++ rr_wM g bd σ hh) H → va_D (fun q : Nat => s.heap.size ≤ q) (rr_wC g a ad Ω ++ rr_wM g bd σ hh) → va_S (fun q : Nat => s.heap.size ≤ q) s.heap H locs → lv_has ls 4 [(0, .ref b), (1, .ref a), (2, .ref (bd 0)), (3, .int (rr_i i))] → W p l e room_1 s m #[Value.ref b] below meth c H locs 66 2940 (lw_Z below #[Value.ref b] s) (F0 m 653 ls [])) → W p l e room_1 s m #[Value.ref b] below meth c H locs 66 2940 (lw_Z below #[Value.ref b] s) (F0 m 406 ls []) := by
  intro hsim hP hD hS hl hk
  obtain ⟨hx, hb, hr, hml, hown, hts, hX, hbl, hlocks, hgv⟩ := C0
  have hts := fun w h => hts w (wsL_law_in w h)
  have hown : s.vm.findClass RL = some m.cls := hown
  have hA : ∀ q : Nat, s.heap.size ≤ q → (fun q : Nat => s.heap.size ≤ q) q := fun _ h => h
  have hbA : ¬ (fun q : Nat => s.heap.size ≤ q) b := Nat.not_le.mpr hbl
  obtain ⟨x, hxg, hxe⟩ : ∃ z : Int, rr_g z ∧ xs (rr_i (i + 1)).toNatClampNeg = rr_i z := ⟨_, rr_to_g _, (rr_i_to _).symm⟩
  obtain ⟨r, Ω1, σ1, h4, h5, hsim1⟩ := (hok.2.2.2.2.2.2.2.2.2.2.1) k Ω σ x hk5 hsim hxg
  refine lv_aload_n hx hb dL_law_406 rfl (lv_at hl 1 rfl) ?_
  refine lv_aload_n hx hb dL_law_407 rfl (lv_at hl 0 rfl) ?_
  refine lv_iload_n hx hb dL_law_408 rfl (lv_at hl 3 rfl) ?_
  refine rr_iconst hx hb dL_law_409 ?_
  refine rr_iadd hx hb dL_law_410 ?_
  refine va_sld hx hb hX hbl hbA hS (rr_in ⟨by omega, by omega⟩ (by omega)) dL_law_411 ?_
  rw [hxe]
  refine rr_partI (wc := rr_wC g a ad Ω) (wr := rr_wM g bd σ hh) hP hD hS hA [0, 1, 2, 3, 4, 5, 6, 7, 8, 9, 10, 11, 12, 13, 14, 15, 16, 17, 18, 19, 20, 21, 22, 23, 24, 25, 26, 27, 28, 29, 30, 31, 32, 33, 34, 35, 36, 37, 38, 39, 40, 41, 42, 43, 44, 45, 46, 47, 48, 49, 50, 51] [52, 53, 54, 55, 56, 57, 58, 59, 60, 61, 62, 63, 64, 65] rfl rfl (by decide) (by decide) (va_runV (As := [.int (rr_i x)]) (rest := []) ⟨hx, hb, hml, hown, hts⟩ (kX4_share l g a ad _ x Ω (r, Ω1) h4) (cwV 1 hts gL_law_X4_share rfl rfl rfl ⟨rfl, hd_X4_share⟩ ⟨Nat.le_of_ble_eq_true rfl, Nat.le_of_ble_eq_true rfl⟩) ⟨rr_P_blind, va_recv hK.1 (hP.sub (ws' := rr_wC g a ad Ω) [0, 1, 2, 3, 4, 5, 6, 7, 8, 9, 10, 11, 12, 13, 14, 15, 16, 17, 18, 19, 20, 21, 22, 23, 24, 25, 26, 27, 28, 29, 30, 31, 32, 33, 34, 35, 36, 37, 38, 39, 40, 41, 42, 43, 44, 45, 46, 47, 48, 49, 50, 51] rfl) (ci := 4) (q0 := 0) rfl rfl, rr_P_pre hK (hP.sub (ws' := rr_wC g a ad Ω) [0, 1, 2, 3, 4, 5, 6, 7, 8, 9, 10, 11, 12, 13, 14, 15, 16, 17, 18, 19, 20, 21, 22, 23, 24, 25, 26, 27, 28, 29, 30, 31, 32, 33, 34, 35, 36, 37, 38, 39, 40, 41, 42, 43, 44, 45, 46, 47, 48, 49, 50, 51] rfl) (hD.sub (ws' := rr_wC g a ad Ω) [0, 1, 2, 3, 4, 5, 6, 7, 8, 9, 10, 11, 12, 13, 14, 15, 16, 17, 18, 19, 20, 21, 22, 23, 24, 25, 26, 27, 28, 29, 30, 31, 32, 33, 34, 35, 36, 37, 38, 39, 40, 41, 42, 43, 44, 45, 46, 47, 48, 49, 50, 51] (by decide) rfl)⟩ rfl rfl hl.1 rfl (lv_room (Nat.le_of_ble_eq_true rfl)) dL_law_412 ⟨Nat.le_of_ble_eq_true rfl, Nat.le_of_ble_eq_true rfl⟩) (fun H locs hP hD hS => ?_)
  have hP := hP.sub (ws' := rr_wC g a ad Ω1 ++ rr_wM g bd σ hh) [14, 15, 16, 17, 18, 19, 20, 21, 22, 23, 24, 25, 26, 27, 28, 29, 30, 31, 32, 33, 34, 35, 36, 37, 38, 39, 40, 41, 42, 43, 44, 45, 46, 47, 48, 49, 50, 51, 52, 53, 54, 55, 56, 57, 58, 59, 60, 61, 62, 63, 64, 65, 0, 1, 2, 3, 4, 5, 6, 7, 8, 9, 10, 11, 12, 13] rfl
  have hD := hD.sub (ws' := rr_wC g a ad Ω1 ++ rr_wM g bd σ hh) [14, 15, 16, 17, 18, 19, 20, 21, 22, 23, 24, 25, 26, 27, 28, 29, 30, 31, 32, 33, 34, 35, 36, 37, 38, 39, 40, 41, 42, 43, 44, 45, 46, 47, 48, 49, 50, 51, 52, 53, 54, 55, 56, 57, 58, 59, 60, 61, 62, 63, 64, 65, 0, 1, 2, 3, 4, 5, 6, 7, 8, 9, 10, 11, 12, 13] (by decide) rfl
  refine lv_aload_n hx hb dL_law_415 rfl (lv_at hl 2 rfl) ?_
  refine lv_aload_n hx hb dL_law_416 rfl (lv_at hl 0 rfl) ?_
  refine lv_iload_n hx hb dL_law_417 rfl (lv_at hl 3 rfl) ?_
  refine rr_iconst hx hb dL_law_418 ?_
  refine rr_iadd hx hb dL_law_419 ?_
  refine va_sld hx hb hX hbl hbA hS (rr_in ⟨by omega, by omega⟩ (by omega)) dL_law_420 ?_
  rw [hxe]
  refine rr_partI (wc := rr_wM g bd σ hh) (wr := rr_wC g a ad Ω1) hP hD hS hA [52, 53, 54, 55, 56, 57, 58, 59, 60, 61, 62, 63, 64, 65] [0, 1, 2, 3, 4, 5, 6, 7, 8, 9, 10, 11, 12, 13, 14, 15, 16, 17, 18, 19, 20, 21, 22, 23, 24, 25, 26, 27, 28, 29, 30, 31, 32, 33, 34, 35, 36, 37, 38, 39, 40, 41, 42, 43, 44, 45, 46, 47, 48, 49, 50, 51] rfl rfl (by decide) (by decide) (va_runV (As := [.int (rr_i x)]) (rest := [.int (rr_i r)]) ⟨hx, hb, hml, hown, hts⟩ (kX5_share l g bd _ hh x σ (r, σ1) h5) (cwV 1 hts gL_law_X5_share rfl rfl rfl ⟨rfl, hd_X5_share⟩ ⟨Nat.le_of_ble_eq_true rfl, Nat.le_of_ble_eq_true rfl⟩) ⟨rr_P_blind, va_recv hK.1 (hP.sub (ws' := rr_wM g bd σ hh) [52, 53, 54, 55, 56, 57, 58, 59, 60, 61, 62, 63, 64, 65] rfl) (ci := 5) (q0 := 0) rfl rfl, rr_P_pre hK (hP.sub (ws' := rr_wM g bd σ hh) [52, 53, 54, 55, 56, 57, 58, 59, 60, 61, 62, 63, 64, 65] rfl) (hD.sub (ws' := rr_wM g bd σ hh) [52, 53, 54, 55, 56, 57, 58, 59, 60, 61, 62, 63, 64, 65] (by decide) rfl)⟩ rfl rfl hl.1 rfl (lv_room (Nat.le_of_ble_eq_true rfl)) dL_law_421 ⟨Nat.le_of_ble_eq_true rfl, Nat.le_of_ble_eq_true rfl⟩) (fun H locs hP hD hS => ?_)
  have hP := hP.sub (ws' := rr_wC g a ad Ω1 ++ rr_wM g bd σ1 hh) [0, 1, 2, 3, 4, 5, 6, 7, 8, 9, 10, 11, 12, 13, 14, 15, 16, 17, 18, 19, 20, 21, 22, 23, 24, 25, 26, 27, 28, 29, 30, 31, 32, 33, 34, 35, 36, 37, 38, 39, 40, 41, 42, 43, 44, 45, 46, 47, 48, 49, 50, 51, 52, 53, 54, 55, 56, 57, 58, 59, 60, 61, 62, 63, 64, 65] rfl
  have hD := hD.sub (ws' := rr_wC g a ad Ω1 ++ rr_wM g bd σ1 hh) [0, 1, 2, 3, 4, 5, 6, 7, 8, 9, 10, 11, 12, 13, 14, 15, 16, 17, 18, 19, 20, 21, 22, 23, 24, 25, 26, 27, 28, 29, 30, 31, 32, 33, 34, 35, 36, 37, 38, 39, 40, 41, 42, 43, 44, 45, 46, 47, 48, 49, 50, 51, 52, 53, 54, 55, 56, 57, 58, 59, 60, 61, 62, 63, 64, 65] (by decide) rfl
  refine lv_icmp_eq (tgt := 653) hx hb dL_law_424 (by decide) (fun _ => ?_) (fun c9 => absurd rfl c9)
  exact hk Ω1 σ1 hh ad _ _ ls hsim1 hP hD hS hl
