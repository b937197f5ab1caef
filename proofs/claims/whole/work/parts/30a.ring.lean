-- RoomRing$Ring.placeBehind
abbrev rm_X1_placeBehind : Room := { frames := 0, cells := 0, slots := 0, locals := 0 }
theorem hd_X1_placeBehind : yX1_placeBehind.cls ≠ "java/lang/invoke/MethodHandle" ∧ yX1_placeBehind.cls ≠ "java/lang/invoke/VarHandle" ∧ (parseMethodDescriptor yX1_placeBehind.desc).map (fun d => d.parameters.length) = some 1 := by decide +kernel
set_option maxHeartbeats 4000000 in
set_option maxRecDepth 100000 in
theorem kX1_placeBehind (l : Launch) (g : rr_G) (x0 : Int) (out : Int) (h : M1_placeBehind x0 = some out) : Met l yX1_placeBehind wsX1_placeBehind rm_X1_placeBehind (rr_R g [.int (rr_i x0)] (([] : va_W))) (vp_Si (fun x => x = rr_i out)) 0 0 (fun _ => False) := by
  refine rr_roI (cc := cX1_placeBehind) (maxL := 1) (by decide) rfl (Nat.le_of_ble_eq_true rfl) ?_
  intro p e s m ar below meth c Q ls hx hb hml hown hts hK hP hret hl
  have hown : s.vm.findClass RX1 = some m.cls := hown
  have hl : lv_has ls 1 [(0, .int (rr_i x0))] := hl
  unfold M1_placeBehind at h
  refine lv_iload_n hx hb dX1_placeBehind_0 rfl (lv_at hl 0 rfl) ?_
  refine rr_iconst hx hb dX1_placeBehind_1 ?_
  refine rr_iadd hx hb dX1_placeBehind_2 ?_
  refine rr_bipush hx hb dX1_placeBehind_3 (by decide +kernel) ?_
  obtain ⟨hg1, h⟩ := rr_c_some h
  refine rr_icmp_ge (tgt := 14) hx hb dX1_placeBehind_5 (by decide) hg1 (by decide) (fun c2 => ?_) (fun c2 => ?_)
  · rw [if_pos c2] at h
    refine rr_iconst hx hb dX1_placeBehind_14 ?_
    exact hret _ _ _ h dX1_placeBehind_15
  · rw [if_neg c2] at h
    refine lv_iload_n hx hb dX1_placeBehind_8 rfl (lv_at hl 0 rfl) ?_
    refine rr_iconst hx hb dX1_placeBehind_9 ?_
    refine rr_iadd hx hb dX1_placeBehind_10 ?_
    refine lv_goto (tgt := 15) hx hb dX1_placeBehind_11 (by decide) ?_
    exact hret _ _ _ h dX1_placeBehind_15
-- RoomRing$Ring.freePlaceFrom
abbrev rm_X1_freePlaceFrom : Room := { frames := 1, cells := 0, slots := 0, locals := 20 }
theorem hd_X1_freePlaceFrom : yX1_freePlaceFrom.cls ≠ "java/lang/invoke/MethodHandle" ∧ yX1_freePlaceFrom.cls ≠ "java/lang/invoke/VarHandle" ∧ (parseMethodDescriptor yX1_freePlaceFrom.desc).map (fun d => d.parameters.length) = some 1 := by decide +kernel
set_option maxHeartbeats 4000000 in
set_option maxRecDepth 100000 in
theorem kX1_freePlaceFrom (l : Launch) (g : rr_G) (ad : Nat → Nat) (x1 : Int) (σ : rr_T) (out : Int) (h : M1_freePlaceFrom x1 σ = some out) : Met l yX1_freePlaceFrom wsX1_freePlaceFrom rm_X1_freePlaceFrom (rr_R g [.ref (ad 0), .int (rr_i x1)] (rr_wR g ad σ)) (vp_Si (fun x => x = rr_i out)) 0 0 (fun _ => False) := by
  refine rr_roI (cc := cX1_freePlaceFrom) (maxL := 4) (by decide) rfl (Nat.le_of_ble_eq_true rfl) ?_
  intro p e s m ar below meth c Q ls hx hb hml hown hts hK hP hret hl
  have hown : s.vm.findClass RX1 = some m.cls := hown
  have hl : lv_has ls 4 [(0, .ref (ad 0)), (1, .int (rr_i x1))] := hl
  have hinX1 : ∀ w ∈ u_ws RX1 TX1 8, w ∈ wsX1_freePlaceFrom := by decide +kernel
  have hk_0 : (Cond.fieldLink RX1 18 "RoomRing$Ring" "owners" "[I").before ar s = true := hts _ (List.mem_of_getElem? (i := 1) (by decide +kernel))
  unfold M1_freePlaceFrom at h
  have hL1_freePlaceFrom_4 : ∀ (K : Int → Option Int) (n : Nat) (x2 : Int) (x3 : Int) (ls : Array Slot), L1_freePlaceFrom_4 σ K n x2 x3 = some out → lv_has ls 4 [(0, .ref (ad 0)), (2, .int (rr_i x2)), (3, .int (rr_i x3))] → (∀ (z2 : Int) (ls : Array Slot), K z2 = some out → lv_has ls 4 [(2, .int (rr_i z2))] → W p l e rm_X1_freePlaceFrom s m ar below meth c s.heap [] 0 0 Q (F0 m 31 ls [])) → W p l e rm_X1_freePlaceFrom s m ar below meth c s.heap [] 0 0 Q (F0 m 4 ls []) := by
    intro K n
    induction n with
    | zero => intro x2 x3 ls h hl hk; cases h
    | succ n ih =>
      intro x2 x3 ls h hl hk
      rw [L1_freePlaceFrom_4_s] at h
      refine lv_iload_n hx hb dX1_freePlaceFrom_4 rfl (lv_at hl 2 rfl) ?_
      refine rr_bipush hx hb dX1_freePlaceFrom_5 (by decide +kernel) ?_
      obtain ⟨hg1, h⟩ := rr_c_some h
      refine rr_icmp_ge (tgt := 31) hx hb dX1_freePlaceFrom_7 (by decide) hg1 (by decide) (fun c2 => ?_) (fun c2 => ?_)
      · rw [if_pos c2] at h
        exact hk x2 ls h (lv_sub hl [1] rfl)
      · rw [if_neg c2] at h
        refine lv_aload_n hx hb dX1_freePlaceFrom_10 rfl (lv_at hl 0 rfl) ?_
        refine va_get (D := g.1) (ci := 1) (v := .ref (ad 1)) (C := RX1) (T := TX1) (N := 8) hx hb hts hinX1 hown hK.1 hP 0 rfl rfl 1 (by decide) hk_0 (fun _ h9 => h9) rfl dX1_freePlaceFrom_11 ?_
        refine lv_iload_n hx hb dX1_freePlaceFrom_14 rfl (lv_at hl 1 rfl) ?_
        obtain ⟨hg3, h⟩ := rr_c_some h
        refine rr_iald (f := (σ 7)) (N := 101) hx hb hK hP 1 rfl rfl (by decide) hg3 dX1_freePlaceFrom_15 ?_
        refine rr_iconst hx hb dX1_freePlaceFrom_16 ?_
        obtain ⟨hg4, h⟩ := rr_c_some h
        refine rr_icmp_eq (tgt := 31) hx hb dX1_freePlaceFrom_17 (by decide) hg4 (by decide) (fun c5 => ?_) (fun c5 => ?_)
        · rw [if_pos c5] at h
          exact hk x2 ls h (lv_sub hl [1] rfl)
        · rw [if_neg c5] at h
          refine lv_iload_n hx hb dX1_freePlaceFrom_20 rfl (lv_at hl 1 rfl) ?_
          obtain ⟨v6, hw7, h⟩ := rr_b_some h
          refine rr_callI (va_runS (As := [.int (rr_i x2)]) (rest := []) ⟨hx, hb, hml, hown, hts⟩ (kX1_placeBehind l g x2 v6 hw7) (va_cwS 1 hts gX1_freePlaceFrom_X1_placeBehind rfl rfl rfl hd_X1_placeBehind ⟨Nat.le_of_ble_eq_true rfl, Nat.le_of_ble_eq_true rfl⟩) ⟨rr_R_blind, rr_R_pre hK (hP.sub (ws' := ([] : va_W)) [] rfl)⟩ rfl rfl hl.1 rfl (lv_room (Nat.le_of_ble_eq_true rfl)) dX1_freePlaceFrom_21 ⟨Nat.zero_le _, Nat.zero_le _⟩) ?_
          refine lv_istore_n (lv' := [(2, .int (rr_i v6)), (0, .ref (ad 0)), (3, .int (rr_i x3))]) hx hb dX1_freePlaceFrom_24 rfl hl (by decide) rfl (fun ls hl => ?_)
          refine rr_iinc (k := 2) (a := x3) (lv' := [(3, .int (rr_i (x3 + 1))), (2, .int (rr_i v6)), (0, .ref (ad 0))]) hx hb dX1_freePlaceFrom_25 hl rfl (by decide) rfl (fun ls hl => ?_)
          refine lv_goto (tgt := 4) hx hb dX1_freePlaceFrom_28 (by decide) ?_
          exact ih v6 (x3 + 1) ls h (lv_sub hl [2, 1, 0] rfl) hk
  refine lv_iload_n hx hb dX1_freePlaceFrom_0 rfl (lv_at hl 1 rfl) ?_
  refine lv_istore_n (lv' := [(2, .int (rr_i x1)), (0, .ref (ad 0)), (1, .int (rr_i x1))]) hx hb dX1_freePlaceFrom_1 rfl hl (by decide) rfl (fun ls hl => ?_)
  refine rr_iconst hx hb dX1_freePlaceFrom_2 ?_
  refine lv_istore_n (lv' := [(3, .int (rr_i 0)), (2, .int (rr_i x1)), (0, .ref (ad 0)), (1, .int (rr_i x1))]) hx hb dX1_freePlaceFrom_3 rfl hl (by decide) rfl (fun ls hl => ?_)
  refine hL1_freePlaceFrom_4 _ 1000 x1 0 ls h (lv_sub hl [2, 1, 0] rfl) (fun y2_4 ls h hl => ?_)
  refine lv_iload_n hx hb dX1_freePlaceFrom_31 rfl (lv_at hl 0 rfl) ?_
  exact hret _ _ _ h dX1_freePlaceFrom_32
-- RoomRing$Ring.setMarks
abbrev rm_X1_setMarks : Room := { frames := 2, cells := 0, slots := 0, locals := 43 }
theorem hd_X1_setMarks : yX1_setMarks.cls ≠ "java/lang/invoke/MethodHandle" ∧ yX1_setMarks.cls ≠ "java/lang/invoke/VarHandle" ∧ (parseMethodDescriptor yX1_setMarks.desc).map (fun d => d.parameters.length) = some 0 := by decide +kernel
set_option maxHeartbeats 4000000 in
set_option maxRecDepth 100000 in
theorem kX1_setMarks (l : Launch) (g : rr_G) (ad : Nat → Nat) (sz : Nat) (σ : rr_T) (out : rr_T) (h : M1_setMarks σ = some out) : Met l yX1_setMarks wsX1_setMarks rm_X1_setMarks (rr_P g [.ref (ad 0)] (rr_wR g ad σ) sz) (rr_Qv g (rr_wR g ad out) (va_A (rr_wR g ad σ) sz)) 0 0 (va_A (rr_wR g ad σ) sz) := by
  refine rr_rwV (cc := cX1_setMarks) (maxL := 5) (fun σ => rr_wR g ad σ) σ out (by decide) rfl (Nat.le_of_ble_eq_true rfl) ?_
  intro p e s m ar below meth c Q ls A hx hb hml hown hts hK hA hP hD hS hret hl
  have hP : va_P g.1 vwCl (rr_wR g ad σ) s.heap := hP
  have hD : va_D A (rr_wR g ad σ) := hD
  have hown : s.vm.findClass RX1 = some m.cls := hown
  have hl : lv_has ls 5 [(0, .ref (ad 0))] := hl
  have hinX1 : ∀ w ∈ u_ws RX1 TX1 8, w ∈ wsX1_setMarks := by decide +kernel
  have hinX3 : ∀ w ∈ u_ws RX3 TX3 7, w ∈ wsX1_setMarks := by decide +kernel
  have hk_0 : (Cond.fieldLink RX1 18 "RoomRing$Ring" "owners" "[I").before ar s = true := hts _ (List.mem_of_getElem? (i := 1) (by decide +kernel))
  have hk_1 : (Cond.fieldLink RX1 12 "RoomRing$Ring" "stock" "LRoomRing$Stock;").before ar s = true := hts _ (List.mem_of_getElem? (i := 2) (by decide +kernel))
  have hk_2 : (Cond.fieldLink RX1 57 "RoomRing$Stock" "hostCount" "I").before ar s = true := hts _ (List.mem_of_getElem? (i := 3) (by decide +kernel))
  have hk_3 : (Cond.fieldLink RX1 60 "RoomRing$Stock" "weights" "[I").before ar s = true := hts _ (List.mem_of_getElem? (i := 4) (by decide +kernel))
  have hk_4 : (Cond.fieldLink RX1 63 "RoomRing$Stock" "names" "[I").before ar s = true := hts _ (List.mem_of_getElem? (i := 5) (by decide +kernel))
  have hk_5 : (Cond.fieldLink RX1 22 "RoomRing$Ring" "markPlaces" "[I").before ar s = true := hts _ (List.mem_of_getElem? (i := 6) (by decide +kernel))
  unfold M1_setMarks at h
  have hL1_setMarks_2 : ∀ (K : rr_T → Option rr_T) (n : Nat) (x1 : Int) (σ : rr_T) (H : Heap) (locs : List Loc) (ls : Array Slot), L1_setMarks_2 K n x1 σ = some out → va_P g.1 vwCl (rr_wR g ad σ) H → va_D A (rr_wR g ad σ) → va_S A s.heap H locs → lv_has ls 5 [(0, .ref (ad 0)), (1, .int (rr_i x1))] → (∀ (τ9 : rr_T) (H : Heap) (locs : List Loc) (ls : Array Slot), K τ9 = some out → va_P g.1 vwCl (rr_wR g ad τ9) H → va_D A (rr_wR g ad τ9) → va_S A s.heap H locs → lv_has ls 5 [(0, .ref (ad 0))] → W p l e rm_X1_setMarks s m ar below meth c H locs 0 0 Q (F0 m 21 ls [])) → W p l e rm_X1_setMarks s m ar below meth c H locs 0 0 Q (F0 m 2 ls []) := by
    intro K n
    induction n with
    | zero => intro x1 σ H locs ls h hP hD hS hl hk; cases h
    | succ n ih =>
      intro x1 σ H locs ls h hP hD hS hl hk
      rw [L1_setMarks_2_s] at h
      refine lv_iload_n hx hb dX1_setMarks_2 rfl (lv_at hl 1 rfl) ?_
      refine rr_bipush hx hb dX1_setMarks_3 (by decide +kernel) ?_
      obtain ⟨hg1, h⟩ := rr_c_some h
      refine rr_icmp_ge (tgt := 21) hx hb dX1_setMarks_5 (by decide) hg1 (by decide) (fun c2 => ?_) (fun c2 => ?_)
      · rw [if_pos c2] at h
        exact hk σ _ _ ls h hP hD hS (lv_sub hl [0] rfl)
      · rw [if_neg c2] at h
        refine lv_aload_n hx hb dX1_setMarks_8 rfl (lv_at hl 0 rfl) ?_
        refine va_get (D := g.1) (ci := 1) (v := .ref (ad 1)) (C := RX1) (T := TX1) (N := 8) hx hb hts hinX1 hown hK.1 hP 0 rfl rfl 1 (by decide) hk_0 (fun _ h9 => h9) rfl dX1_setMarks_9 ?_
        refine lv_iload_n hx hb dX1_setMarks_12 rfl (lv_at hl 1 rfl) ?_
        refine rr_iconst hx hb dX1_setMarks_13 ?_
        obtain ⟨hg3, h⟩ := rr_c_some h
        refine rr_iast (f := (σ 7)) (N := 101) hx hb hK hP hD hS 1 rfl rfl (by decide) hg3 dX1_setMarks_14 (fun H locs hP hD hS => ?_)
        have hP : va_P g.1 vwCl (rr_wR g ad (rr_s σ 7 x1 (-1))) H := hP
        have hD : va_D A (rr_wR g ad (rr_s σ 7 x1 (-1))) := hD
        refine rr_iinc (k := 1) (a := x1) (lv' := [(1, .int (rr_i (x1 + 1))), (0, .ref (ad 0))]) hx hb dX1_setMarks_15 hl rfl (by decide) rfl (fun ls hl => ?_)
        refine lv_goto (tgt := 2) hx hb dX1_setMarks_18 (by decide) ?_
        exact ih (x1 + 1) (rr_s σ 7 x1 (-1)) _ _ ls h hP hD hS (lv_sub hl [1, 0] rfl) hk
  have hL1_setMarks_48 : ∀ (x1 : Int) (x2 : Int) (K : rr_T → Option rr_T) (n : Nat) (x3 : Int) (σ : rr_T) (H : Heap) (locs : List Loc) (ls : Array Slot), L1_setMarks_48 x1 x2 K n x3 σ = some out → va_P g.1 vwCl (rr_wR g ad σ) H → va_D A (rr_wR g ad σ) → va_S A s.heap H locs → lv_has ls 5 [(0, .ref (ad 0)), (1, .int (rr_i x1)), (2, .int (rr_i x2)), (3, .int (rr_i x3))] → (∀ (τ9 : rr_T) (H : Heap) (locs : List Loc) (ls : Array Slot), K τ9 = some out → va_P g.1 vwCl (rr_wR g ad τ9) H → va_D A (rr_wR g ad τ9) → va_S A s.heap H locs → lv_has ls 5 [(0, .ref (ad 0)), (1, .int (rr_i x1))] → W p l e rm_X1_setMarks s m ar below meth c H locs 0 0 Q (F0 m 108 ls [])) → W p l e rm_X1_setMarks s m ar below meth c H locs 0 0 Q (F0 m 48 ls []) := by
    intro x1 x2 K n
    induction n with
    | zero => intro x3 σ H locs ls h hP hD hS hl hk; cases h
    | succ n ih =>
      intro x3 σ H locs ls h hP hD hS hl hk
      rw [L1_setMarks_48_s] at h
      refine lv_iload_n hx hb dX1_setMarks_48 rfl (lv_at hl 3 rfl) ?_
      refine lv_iload_n hx hb dX1_setMarks_49 rfl (lv_at hl 2 rfl) ?_
      obtain ⟨hg7, h⟩ := rr_c_some h
      refine rr_icmp_ge (tgt := 108) hx hb dX1_setMarks_50 (by decide) hg7.1 hg7.2 (fun c8 => ?_) (fun c8 => ?_)
      · rw [if_pos c8] at h
        exact hk σ _ _ ls h hP hD hS (lv_sub hl [0, 1] rfl)
      · rw [if_neg c8] at h
        refine lv_aload_n hx hb dX1_setMarks_53 rfl (lv_at hl 0 rfl) ?_
        refine rr_bipush hx hb dX1_setMarks_54 (by decide +kernel) ?_
        refine lv_aload_n hx hb dX1_setMarks_56 rfl (lv_at hl 0 rfl) ?_
        refine va_get (D := g.1) (ci := 1) (v := .ref (ad 8)) (C := RX1) (T := TX1) (N := 8) hx hb hts hinX1 hown hK.1 hP 0 rfl rfl 0 (by decide) hk_1 (fun _ h9 => h9) rfl dX1_setMarks_57 ?_
        refine va_get (D := g.1) (ci := 3) (v := .ref (ad 9)) (C := RX3) (T := TX3) (N := 7) hx hb hts hinX3 hown hK.1 hP 8 rfl rfl 0 (by decide) hk_4 (fun _ h9 => h9) rfl dX1_setMarks_60 ?_
        refine lv_iload_n hx hb dX1_setMarks_63 rfl (lv_at hl 1 rfl) ?_
        obtain ⟨hg9, h⟩ := rr_c_some h
        refine rr_iald (f := (σ 0)) (N := 6) hx hb hK hP 9 rfl rfl (by decide) hg9 dX1_setMarks_64 ?_
        refine rr_imul hx hb dX1_setMarks_65 ?_
        refine rr_bipush hx hb dX1_setMarks_66 (by decide +kernel) ?_
        refine lv_iload_n hx hb dX1_setMarks_68 rfl (lv_at hl 3 rfl) ?_
        refine rr_imul hx hb dX1_setMarks_69 ?_
        refine rr_iadd hx hb dX1_setMarks_70 ?_
        refine rr_iconst hx hb dX1_setMarks_71 ?_
        refine rr_iadd hx hb dX1_setMarks_72 ?_
        refine rr_bipush hx hb dX1_setMarks_73 (by decide +kernel) ?_
        obtain ⟨hg10, h⟩ := rr_c_some h
        refine rr_irem hx hb dX1_setMarks_75 ⟨hg10.1, hg10.2, by decide, by decide⟩ ?_
        obtain ⟨v11, hw12, h⟩ := rr_b_some h
        refine rr_callI (va_runV (As := [.int (rr_i ((((41 * (σ 0 x1)) + (29 * x3)) + 5) % 101))]) (rest := []) ⟨hx, hb, hml, hown, hts⟩ (kX1_freePlaceFrom l g ad ((((41 * (σ 0 x1)) + (29 * x3)) + 5) % 101) σ v11 hw12) (cwV 1 hts gX1_setMarks_X1_freePlaceFrom rfl rfl rfl ⟨rfl, hd_X1_freePlaceFrom⟩ ⟨Nat.le_of_ble_eq_true rfl, Nat.le_of_ble_eq_true rfl⟩) ⟨rr_R_blind, va_recv hK.1 hP (ci := 1) (q0 := 0) rfl rfl, rr_R_pre hK hP⟩ rfl rfl hl.1 rfl (lv_room (Nat.le_of_ble_eq_true rfl)) dX1_setMarks_76 ⟨Nat.zero_le _, Nat.zero_le _⟩) ?_
        refine lv_istore (lv' := [(4, .int (rr_i v11)), (0, .ref (ad 0)), (1, .int (rr_i x1)), (2, .int (rr_i x2)), (3, .int (rr_i x3))]) hx hb dX1_setMarks_79 hl (by decide) rfl (fun ls hl => ?_)
        refine lv_aload_n hx hb dX1_setMarks_81 rfl (lv_at hl 1 rfl) ?_
        refine va_get (D := g.1) (ci := 1) (v := .ref (ad 1)) (C := RX1) (T := TX1) (N := 8) hx hb hts hinX1 hown hK.1 hP 0 rfl rfl 1 (by decide) hk_0 (fun _ h9 => h9) rfl dX1_setMarks_82 ?_
        refine lv_iload hx hb dX1_setMarks_85 (lv_at hl 0 rfl) ?_
        refine lv_iload_n hx hb dX1_setMarks_87 rfl (lv_at hl 2 rfl) ?_
        obtain ⟨hg13, h⟩ := rr_c_some h
        refine rr_iast (f := (σ 7)) (N := 101) hx hb hK hP hD hS 1 rfl rfl (by decide) hg13 dX1_setMarks_88 (fun H locs hP hD hS => ?_)
        have hP : va_P g.1 vwCl (rr_wR g ad (rr_s σ 7 v11 x1)) H := hP
        have hD : va_D A (rr_wR g ad (rr_s σ 7 v11 x1)) := hD
        refine lv_aload_n hx hb dX1_setMarks_89 rfl (lv_at hl 1 rfl) ?_
        refine va_get (D := g.1) (ci := 1) (v := .ref (ad 2)) (C := RX1) (T := TX1) (N := 8) hx hb hts hinX1 hown hK.1 hP 0 rfl rfl 2 (by decide) hk_5 (fun _ h9 => h9) rfl dX1_setMarks_90 ?_
        refine lv_iload_n hx hb dX1_setMarks_93 rfl (lv_at hl 2 rfl) ?_
        refine rr_bipush hx hb dX1_setMarks_94 (by decide +kernel) ?_
        refine rr_imul hx hb dX1_setMarks_96 ?_
        refine lv_iload_n hx hb dX1_setMarks_97 rfl (lv_at hl 4 rfl) ?_
        refine rr_iadd hx hb dX1_setMarks_98 ?_
        refine lv_iload hx hb dX1_setMarks_99 (lv_at hl 0 rfl) ?_
        obtain ⟨hg14, h⟩ := rr_c_some h
        refine rr_iast (f := (σ 8)) (N := 48) hx hb hK hP hD hS 2 rfl rfl (by decide) hg14 dX1_setMarks_101 (fun H locs hP hD hS => ?_)
        have hP : va_P g.1 vwCl (rr_wR g ad (rr_s (rr_s σ 7 v11 x1) 8 ((x1 * 8) + x3) v11)) H := hP
        have hD : va_D A (rr_wR g ad (rr_s (rr_s σ 7 v11 x1) 8 ((x1 * 8) + x3) v11)) := hD
        refine rr_iinc (k := 4) (a := x3) (lv' := [(3, .int (rr_i (x3 + 1))), (4, .int (rr_i v11)), (0, .ref (ad 0)), (1, .int (rr_i x1)), (2, .int (rr_i x2))]) hx hb dX1_setMarks_102 hl rfl (by decide) rfl (fun ls hl => ?_)
        refine lv_goto (tgt := 48) hx hb dX1_setMarks_105 (by decide) ?_
        exact ih (x3 + 1) (rr_s (rr_s σ 7 v11 x1) 8 ((x1 * 8) + x3) v11) _ _ ls h hP hD hS (lv_sub hl [2, 3, 4, 0] rfl) hk
  have hL1_setMarks_23 : ∀ (K : rr_T → Option rr_T) (n : Nat) (x1 : Int) (σ : rr_T) (H : Heap) (locs : List Loc) (ls : Array Slot), L1_setMarks_23 K n x1 σ = some out → va_P g.1 vwCl (rr_wR g ad σ) H → va_D A (rr_wR g ad σ) → va_S A s.heap H locs → lv_has ls 5 [(0, .ref (ad 0)), (1, .int (rr_i x1))] → (∀ (τ9 : rr_T) (H : Heap) (locs : List Loc) (ls : Array Slot), K τ9 = some out → va_P g.1 vwCl (rr_wR g ad τ9) H → va_D A (rr_wR g ad τ9) → va_S A s.heap H locs → lv_has ls 5 [] → W p l e rm_X1_setMarks s m ar below meth c H locs 0 0 Q (F0 m 114 ls [])) → W p l e rm_X1_setMarks s m ar below meth c H locs 0 0 Q (F0 m 23 ls []) := by
    intro K n
    induction n with
    | zero => intro x1 σ H locs ls h hP hD hS hl hk; cases h
    | succ n ih =>
      intro x1 σ H locs ls h hP hD hS hl hk
      rw [L1_setMarks_23_s] at h
      refine lv_iload_n hx hb dX1_setMarks_23 rfl (lv_at hl 1 rfl) ?_
      refine lv_aload_n hx hb dX1_setMarks_24 rfl (lv_at hl 0 rfl) ?_
      refine va_get (D := g.1) (ci := 1) (v := .ref (ad 8)) (C := RX1) (T := TX1) (N := 8) hx hb hts hinX1 hown hK.1 hP 0 rfl rfl 0 (by decide) hk_1 (fun _ h9 => h9) rfl dX1_setMarks_25 ?_
      refine va_get (D := g.1) (ci := 3) (v := .int (rr_i (σ 3 0))) (C := RX3) (T := TX3) (N := 7) hx hb hts hinX3 hown hK.1 hP 8 rfl rfl 3 (by decide) hk_2 (fun _ h9 => h9) rfl dX1_setMarks_28 ?_
      obtain ⟨hg4, h⟩ := rr_c_some h
      refine rr_icmp_ge (tgt := 114) hx hb dX1_setMarks_31 (by decide) hg4.1 hg4.2 (fun c5 => ?_) (fun c5 => ?_)
      · rw [if_pos c5] at h
        exact hk σ _ _ ls h hP hD hS (lv_sub hl [] rfl)
      · rw [if_neg c5] at h
        refine rr_iconst hx hb dX1_setMarks_34 ?_
        refine lv_aload_n hx hb dX1_setMarks_35 rfl (lv_at hl 0 rfl) ?_
        refine va_get (D := g.1) (ci := 1) (v := .ref (ad 8)) (C := RX1) (T := TX1) (N := 8) hx hb hts hinX1 hown hK.1 hP 0 rfl rfl 0 (by decide) hk_1 (fun _ h9 => h9) rfl dX1_setMarks_36 ?_
        refine va_get (D := g.1) (ci := 3) (v := .ref (ad 10)) (C := RX3) (T := TX3) (N := 7) hx hb hts hinX3 hown hK.1 hP 8 rfl rfl 1 (by decide) hk_3 (fun _ h9 => h9) rfl dX1_setMarks_39 ?_
        refine lv_iload_n hx hb dX1_setMarks_42 rfl (lv_at hl 1 rfl) ?_
        obtain ⟨hg6, h⟩ := rr_c_some h
        refine rr_iald (f := (σ 1)) (N := 6) hx hb hK hP 10 rfl rfl (by decide) hg6 dX1_setMarks_43 ?_
        refine rr_imul hx hb dX1_setMarks_44 ?_
        refine lv_istore_n (lv' := [(2, .int (rr_i (2 * (σ 1 x1)))), (0, .ref (ad 0)), (1, .int (rr_i x1))]) hx hb dX1_setMarks_45 rfl hl (by decide) rfl (fun ls hl => ?_)
        refine rr_iconst hx hb dX1_setMarks_46 ?_
        refine lv_istore_n (lv' := [(3, .int (rr_i 0)), (2, .int (rr_i (2 * (σ 1 x1)))), (0, .ref (ad 0)), (1, .int (rr_i x1))]) hx hb dX1_setMarks_47 rfl hl (by decide) rfl (fun ls hl => ?_)
        refine hL1_setMarks_48 x1 (2 * (σ 1 x1)) _ 1000 0 σ _ _ ls h hP hD hS (lv_sub hl [2, 3, 1, 0] rfl) (fun σ_48 H locs ls h hP hD hS hl => ?_)
        refine rr_iinc (k := 1) (a := x1) (lv' := [(1, .int (rr_i (x1 + 1))), (0, .ref (ad 0))]) hx hb dX1_setMarks_108 hl rfl (by decide) rfl (fun ls hl => ?_)
        refine lv_goto (tgt := 23) hx hb dX1_setMarks_111 (by decide) ?_
        exact ih (x1 + 1) σ_48 _ _ ls h hP hD hS (lv_sub hl [1, 0] rfl) hk
  refine rr_iconst hx hb dX1_setMarks_0 ?_
  refine lv_istore_n (lv' := [(1, .int (rr_i 0)), (0, .ref (ad 0))]) hx hb dX1_setMarks_1 rfl hl (by decide) rfl (fun ls hl => ?_)
  refine hL1_setMarks_2 _ 1000 0 σ _ _ ls h hP hD hS (lv_sub hl [1, 0] rfl) (fun σ_2 H locs ls h hP hD hS hl => ?_)
  refine rr_iconst hx hb dX1_setMarks_21 ?_
  refine lv_istore_n (lv' := [(1, .int (rr_i 0)), (0, .ref (ad 0))]) hx hb dX1_setMarks_22 rfl hl (by decide) rfl (fun ls hl => ?_)
  refine hL1_setMarks_23 _ 1000 0 σ_2 _ _ ls h hP hD hS (lv_sub hl [1, 0] rfl) (fun σ_23 H locs ls h hP hD hS hl => ?_)
  exact hret _ _ _ _ _ h hP hD hS dX1_setMarks_114
-- RoomRing$Ring.setBounds
abbrev rm_X1_setBounds : Room := { frames := 1, cells := 0, slots := 0, locals := 22 }
theorem hd_X1_setBounds : yX1_setBounds.cls ≠ "java/lang/invoke/MethodHandle" ∧ yX1_setBounds.cls ≠ "java/lang/invoke/VarHandle" ∧ (parseMethodDescriptor yX1_setBounds.desc).map (fun d => d.parameters.length) = some 0 := by decide +kernel
set_option maxHeartbeats 4000000 in
set_option maxRecDepth 100000 in
theorem kX1_setBounds (l : Launch) (g : rr_G) (ad : Nat → Nat) (sz : Nat) (σ : rr_T) (out : rr_T) (h : M1_setBounds σ = some out) : Met l yX1_setBounds wsX1_setBounds rm_X1_setBounds (rr_P g [.ref (ad 0)] (rr_wR g ad σ) sz) (rr_Qv g (rr_wR g ad out) (va_A (rr_wR g ad σ) sz)) 0 0 (va_A (rr_wR g ad σ) sz) := by
  refine rr_rwV (cc := cX1_setBounds) (maxL := 4) (fun σ => rr_wR g ad σ) σ out (by decide) rfl (Nat.le_of_ble_eq_true rfl) ?_
  intro p e s m ar below meth c Q ls A hx hb hml hown hts hK hA hP hD hS hret hl
  have hP : va_P g.1 vwCl (rr_wR g ad σ) s.heap := hP
  have hD : va_D A (rr_wR g ad σ) := hD
  have hown : s.vm.findClass RX1 = some m.cls := hown
  have hl : lv_has ls 4 [(0, .ref (ad 0))] := hl
  have hinX1 : ∀ w ∈ u_ws RX1 TX1 8, w ∈ wsX1_setBounds := by decide +kernel
  have hinX3 : ∀ w ∈ u_ws RX3 TX3 7, w ∈ wsX1_setBounds := by decide +kernel
  have hk_0 : (Cond.fieldLink RX1 12 "RoomRing$Ring" "stock" "LRoomRing$Stock;").before ar s = true := hts _ (List.mem_of_getElem? (i := 1) (by decide +kernel))
  have hk_1 : (Cond.fieldLink RX1 57 "RoomRing$Stock" "hostCount" "I").before ar s = true := hts _ (List.mem_of_getElem? (i := 2) (by decide +kernel))
  have hk_2 : (Cond.fieldLink RX1 49 "RoomRing$Stock" "keyCount" "I").before ar s = true := hts _ (List.mem_of_getElem? (i := 3) (by decide +kernel))
  have hk_3 : (Cond.fieldLink RX1 60 "RoomRing$Stock" "weights" "[I").before ar s = true := hts _ (List.mem_of_getElem? (i := 4) (by decide +kernel))
  have hk_4 : (Cond.fieldLink RX1 77 "RoomRing$Stock" "extraShare" "I").before ar s = true := hts _ (List.mem_of_getElem? (i := 5) (by decide +kernel))
  have hk_5 : (Cond.fieldLink RX1 25 "RoomRing$Ring" "bounds" "[I").before ar s = true := hts _ (List.mem_of_getElem? (i := 6) (by decide +kernel))
  have hk_6 : (Cond.fieldLink RX1 28 "RoomRing$Ring" "loads" "[I").before ar s = true := hts _ (List.mem_of_getElem? (i := 7) (by decide +kernel))
  unfold M1_setBounds at h
  have hL1_setBounds_13 : ∀ (x1 : Int) (K : rr_T → Option rr_T) (n : Nat) (x2 : Int) (σ : rr_T) (H : Heap) (locs : List Loc) (ls : Array Slot), L1_setBounds_13 x1 K n x2 σ = some out → va_P g.1 vwCl (rr_wR g ad σ) H → va_D A (rr_wR g ad σ) → va_S A s.heap H locs → lv_has ls 4 [(0, .ref (ad 0)), (1, .int (rr_i x1)), (2, .int (rr_i x2))] → (∀ (τ9 : rr_T) (H : Heap) (locs : List Loc) (ls : Array Slot), K τ9 = some out → va_P g.1 vwCl (rr_wR g ad τ9) H → va_D A (rr_wR g ad τ9) → va_S A s.heap H locs → lv_has ls 4 [] → W p l e rm_X1_setBounds s m ar below meth c H locs 0 0 Q (F0 m 83 ls [])) → W p l e rm_X1_setBounds s m ar below meth c H locs 0 0 Q (F0 m 13 ls []) := by
    intro x1 K n
    induction n with
    | zero => intro x2 σ H locs ls h hP hD hS hl hk; cases h
    | succ n ih =>
      intro x2 σ H locs ls h hP hD hS hl hk
      rw [L1_setBounds_13_s] at h
      refine lv_iload_n hx hb dX1_setBounds_13 rfl (lv_at hl 2 rfl) ?_
      refine lv_aload_n hx hb dX1_setBounds_14 rfl (lv_at hl 0 rfl) ?_
      refine va_get (D := g.1) (ci := 1) (v := .ref (ad 8)) (C := RX1) (T := TX1) (N := 8) hx hb hts hinX1 hown hK.1 hP 0 rfl rfl 0 (by decide) hk_0 (fun _ h9 => h9) rfl dX1_setBounds_15 ?_
      refine va_get (D := g.1) (ci := 3) (v := .int (rr_i (σ 3 0))) (C := RX3) (T := TX3) (N := 7) hx hb hts hinX3 hown hK.1 hP 8 rfl rfl 3 (by decide) hk_1 (fun _ h9 => h9) rfl dX1_setBounds_18 ?_
      obtain ⟨hg3, h⟩ := rr_c_some h
      refine rr_icmp_ge (tgt := 83) hx hb dX1_setBounds_21 (by decide) hg3.1 hg3.2 (fun c4 => ?_) (fun c4 => ?_)
      · rw [if_pos c4] at h
        exact hk σ _ _ ls h hP hD hS (lv_sub hl [] rfl)
      · rw [if_neg c4] at h
        refine lv_iload_n hx hb dX1_setBounds_24 rfl (lv_at hl 1 rfl) ?_
        obtain ⟨hg5, h⟩ := rr_c_some h
        refine rr_if_le (tgt := 83) hx hb dX1_setBounds_25 (by decide) hg5 (fun c6 => ?_) (fun c6 => ?_)
        · rw [if_pos c6] at h
          exact hk σ _ _ ls h hP hD hS (lv_sub hl [] rfl)
        · rw [if_neg c6] at h
          refine lv_aload_n hx hb dX1_setBounds_28 rfl (lv_at hl 0 rfl) ?_
          refine va_get (D := g.1) (ci := 1) (v := .ref (ad 8)) (C := RX1) (T := TX1) (N := 8) hx hb hts hinX1 hown hK.1 hP 0 rfl rfl 0 (by decide) hk_0 (fun _ h9 => h9) rfl dX1_setBounds_29 ?_
          refine va_get (D := g.1) (ci := 3) (v := .int (rr_i (σ 4 0))) (C := RX3) (T := TX3) (N := 7) hx hb hts hinX3 hown hK.1 hP 8 rfl rfl 4 (by decide) hk_2 (fun _ h9 => h9) rfl dX1_setBounds_32 ?_
          refine lv_aload_n hx hb dX1_setBounds_35 rfl (lv_at hl 0 rfl) ?_
          refine va_get (D := g.1) (ci := 1) (v := .ref (ad 8)) (C := RX1) (T := TX1) (N := 8) hx hb hts hinX1 hown hK.1 hP 0 rfl rfl 0 (by decide) hk_0 (fun _ h9 => h9) rfl dX1_setBounds_36 ?_
          refine va_get (D := g.1) (ci := 3) (v := .ref (ad 10)) (C := RX3) (T := TX3) (N := 7) hx hb hts hinX3 hown hK.1 hP 8 rfl rfl 1 (by decide) hk_3 (fun _ h9 => h9) rfl dX1_setBounds_39 ?_
          refine lv_iload_n hx hb dX1_setBounds_42 rfl (lv_at hl 2 rfl) ?_
          obtain ⟨hg7, h⟩ := rr_c_some h
          refine rr_iald (f := (σ 1)) (N := 6) hx hb hK hP 10 rfl rfl (by decide) hg7 dX1_setBounds_43 ?_
          refine rr_imul hx hb dX1_setBounds_44 ?_
          refine rr_bipush hx hb dX1_setBounds_45 (by decide +kernel) ?_
          refine lv_aload_n hx hb dX1_setBounds_47 rfl (lv_at hl 0 rfl) ?_
          refine va_get (D := g.1) (ci := 1) (v := .ref (ad 8)) (C := RX1) (T := TX1) (N := 8) hx hb hts hinX1 hown hK.1 hP 0 rfl rfl 0 (by decide) hk_0 (fun _ h9 => h9) rfl dX1_setBounds_48 ?_
          refine va_get (D := g.1) (ci := 3) (v := .int (rr_i (σ 5 0))) (C := RX3) (T := TX3) (N := 7) hx hb hts hinX3 hown hK.1 hP 8 rfl rfl 5 (by decide) hk_4 (fun _ h9 => h9) rfl dX1_setBounds_51 ?_
          refine rr_iadd hx hb dX1_setBounds_54 ?_
          refine rr_imul hx hb dX1_setBounds_55 ?_
          refine lv_istore_n (lv' := [(3, .int (rr_i (((σ 4 0) * (σ 1 x2)) * (100 + (σ 5 0))))), (0, .ref (ad 0)), (1, .int (rr_i x1)), (2, .int (rr_i x2))]) hx hb dX1_setBounds_56 rfl hl (by decide) rfl (fun ls hl => ?_)
          refine lv_aload_n hx hb dX1_setBounds_57 rfl (lv_at hl 1 rfl) ?_
          refine va_get (D := g.1) (ci := 1) (v := .ref (ad 3)) (C := RX1) (T := TX1) (N := 8) hx hb hts hinX1 hown hK.1 hP 0 rfl rfl 3 (by decide) hk_5 (fun _ h9 => h9) rfl dX1_setBounds_58 ?_
          refine lv_iload_n hx hb dX1_setBounds_61 rfl (lv_at hl 3 rfl) ?_
          refine lv_iload_n hx hb dX1_setBounds_62 rfl (lv_at hl 0 rfl) ?_
          refine lv_iload_n hx hb dX1_setBounds_63 rfl (lv_at hl 2 rfl) ?_
          refine rr_iadd hx hb dX1_setBounds_64 ?_
          refine rr_iconst hx hb dX1_setBounds_65 ?_
          refine rr_isub hx hb dX1_setBounds_66 ?_
          refine lv_iload_n hx hb dX1_setBounds_67 rfl (lv_at hl 2 rfl) ?_
          obtain ⟨hg8, h⟩ := rr_c_some h
          refine rr_idiv hx hb dX1_setBounds_68 ⟨hg8.1.1, hg8.1.2, hg8.2.1, hg8.2.2⟩ ?_
          refine rr_iast (f := (σ 9)) (N := 6) hx hb hK hP hD hS 3 rfl rfl (by decide) hg7 dX1_setBounds_69 (fun H locs hP hD hS => ?_)
          have hP : va_P g.1 vwCl (rr_wR g ad (rr_s σ 9 x2 ((((((σ 4 0) * (σ 1 x2)) * (100 + (σ 5 0))) + x1) - 1) / x1))) H := hP
          have hD : va_D A (rr_wR g ad (rr_s σ 9 x2 ((((((σ 4 0) * (σ 1 x2)) * (100 + (σ 5 0))) + x1) - 1) / x1))) := hD
          refine lv_aload_n hx hb dX1_setBounds_70 rfl (lv_at hl 1 rfl) ?_
          refine va_get (D := g.1) (ci := 1) (v := .ref (ad 4)) (C := RX1) (T := TX1) (N := 8) hx hb hts hinX1 hown hK.1 hP 0 rfl rfl 4 (by decide) hk_6 (fun _ h9 => h9) rfl dX1_setBounds_71 ?_
          refine lv_iload_n hx hb dX1_setBounds_74 rfl (lv_at hl 3 rfl) ?_
          refine rr_iconst hx hb dX1_setBounds_75 ?_
          refine rr_iast (f := (σ 10)) (N := 6) hx hb hK hP hD hS 4 rfl rfl (by decide) hg7 dX1_setBounds_76 (fun H locs hP hD hS => ?_)
          have hP : va_P g.1 vwCl (rr_wR g ad (rr_s (rr_s σ 9 x2 ((((((σ 4 0) * (σ 1 x2)) * (100 + (σ 5 0))) + x1) - 1) / x1)) 10 x2 0)) H := hP
          have hD : va_D A (rr_wR g ad (rr_s (rr_s σ 9 x2 ((((((σ 4 0) * (σ 1 x2)) * (100 + (σ 5 0))) + x1) - 1) / x1)) 10 x2 0)) := hD
          refine rr_iinc (k := 3) (a := x2) (lv' := [(2, .int (rr_i (x2 + 1))), (3, .int (rr_i (((σ 4 0) * (σ 1 x2)) * (100 + (σ 5 0))))), (0, .ref (ad 0)), (1, .int (rr_i x1))]) hx hb dX1_setBounds_77 hl rfl (by decide) rfl (fun ls hl => ?_)
          refine lv_goto (tgt := 13) hx hb dX1_setBounds_80 (by decide) ?_
          exact ih (x2 + 1) (rr_s (rr_s σ 9 x2 ((((((σ 4 0) * (σ 1 x2)) * (100 + (σ 5 0))) + x1) - 1) / x1)) 10 x2 0) _ _ ls h hP hD hS (lv_sub hl [2, 3, 0] rfl) hk
  refine rr_bipush hx hb dX1_setBounds_0 (by decide +kernel) ?_
  refine lv_aload_n hx hb dX1_setBounds_2 rfl (lv_at hl 0 rfl) ?_
  refine va_get (D := g.1) (ci := 1) (v := .ref (ad 8)) (C := RX1) (T := TX1) (N := 8) hx hb hts hinX1 hown hK.1 hP 0 rfl rfl 0 (by decide) hk_0 (fun _ h9 => h9) rfl dX1_setBounds_3 ?_
  obtain ⟨v1, hw2, h⟩ := rr_b_some h
  refine rr_callI (va_runV (As := []) (rest := [.int (rr_i 100)]) ⟨hx, hb, hml, hown, hts⟩ (kX3_allWeights l g (fun k => ad (8 + k)) σ v1 hw2) (cwV 0 hts gX1_setBounds_X3_allWeights rfl rfl rfl ⟨rfl, hd_X3_allWeights⟩ ⟨Nat.le_of_ble_eq_true rfl, Nat.le_of_ble_eq_true rfl⟩) ⟨rr_R_blind, va_recv hK.1 (hP.sub (ws' := rr_wS g (fun k => ad (8 + k)) σ) [8, 9, 10, 11] rfl) (ci := 3) (q0 := 0) rfl rfl, rr_R_pre hK (hP.sub (ws' := rr_wS g (fun k => ad (8 + k)) σ) [8, 9, 10, 11] rfl)⟩ rfl rfl hl.1 rfl (lv_room (Nat.le_of_ble_eq_true rfl)) dX1_setBounds_6 ⟨Nat.zero_le _, Nat.zero_le _⟩) ?_
  refine rr_imul hx hb dX1_setBounds_9 ?_
  refine lv_istore_n (lv' := [(1, .int (rr_i (100 * v1))), (0, .ref (ad 0))]) hx hb dX1_setBounds_10 rfl hl (by decide) rfl (fun ls hl => ?_)
  refine rr_iconst hx hb dX1_setBounds_11 ?_
  refine lv_istore_n (lv' := [(2, .int (rr_i 0)), (1, .int (rr_i (100 * v1))), (0, .ref (ad 0))]) hx hb dX1_setBounds_12 rfl hl (by decide) rfl (fun ls hl => ?_)
  refine hL1_setBounds_13 (100 * v1) _ 1000 0 σ _ _ ls h hP hD hS (lv_sub hl [2, 1, 0] rfl) (fun σ_13 H locs ls h hP hD hS hl => ?_)
  exact hret _ _ _ _ _ h hP hD hS dX1_setBounds_83
-- RoomRing$Ring.placeOfKey
abbrev rm_X1_placeOfKey : Room := { frames := 0, cells := 0, slots := 0, locals := 0 }
theorem hd_X1_placeOfKey : yX1_placeOfKey.cls ≠ "java/lang/invoke/MethodHandle" ∧ yX1_placeOfKey.cls ≠ "java/lang/invoke/VarHandle" ∧ (parseMethodDescriptor yX1_placeOfKey.desc).map (fun d => d.parameters.length) = some 1 := by decide +kernel
set_option maxHeartbeats 4000000 in
set_option maxRecDepth 100000 in
theorem kX1_placeOfKey (l : Launch) (g : rr_G) (ad : Nat → Nat) (x1 : Int) (σ : rr_T) (out : Int) (h : M1_placeOfKey x1 σ = some out) : Met l yX1_placeOfKey wsX1_placeOfKey rm_X1_placeOfKey (rr_R g [.ref (ad 0), .int (rr_i x1)] (rr_wR g ad σ)) (vp_Si (fun x => x = rr_i out)) 0 0 (fun _ => False) := by
  refine rr_roI (cc := cX1_placeOfKey) (maxL := 2) (by decide) rfl (Nat.le_of_ble_eq_true rfl) ?_
  intro p e s m ar below meth c Q ls hx hb hml hown hts hK hP hret hl
  have hown : s.vm.findClass RX1 = some m.cls := hown
  have hl : lv_has ls 2 [(0, .ref (ad 0)), (1, .int (rr_i x1))] := hl
  have hinX1 : ∀ w ∈ u_ws RX1 TX1 8, w ∈ wsX1_placeOfKey := by decide +kernel
  have hinX3 : ∀ w ∈ u_ws RX3 TX3 7, w ∈ wsX1_placeOfKey := by decide +kernel
  have hk_0 : (Cond.fieldLink RX1 12 "RoomRing$Ring" "stock" "LRoomRing$Stock;").before ar s = true := hts _ (List.mem_of_getElem? (i := 1) (by decide +kernel))
  have hk_1 : (Cond.fieldLink RX1 83 "RoomRing$Stock" "keys" "[I").before ar s = true := hts _ (List.mem_of_getElem? (i := 2) (by decide +kernel))
  unfold M1_placeOfKey at h
  refine rr_bipush hx hb dX1_placeOfKey_0 (by decide +kernel) ?_
  refine lv_aload_n hx hb dX1_placeOfKey_2 rfl (lv_at hl 0 rfl) ?_
  refine va_get (D := g.1) (ci := 1) (v := .ref (ad 8)) (C := RX1) (T := TX1) (N := 8) hx hb hts hinX1 hown hK.1 hP 0 rfl rfl 0 (by decide) hk_0 (fun _ h9 => h9) rfl dX1_placeOfKey_3 ?_
  refine va_get (D := g.1) (ci := 3) (v := .ref (ad 11)) (C := RX3) (T := TX3) (N := 7) hx hb hts hinX3 hown hK.1 hP 8 rfl rfl 2 (by decide) hk_1 (fun _ h9 => h9) rfl dX1_placeOfKey_6 ?_
  refine lv_iload_n hx hb dX1_placeOfKey_9 rfl (lv_at hl 1 rfl) ?_
  obtain ⟨hg1, h⟩ := rr_c_some h
  refine rr_iald (f := (σ 2)) (N := 40) hx hb hK hP 11 rfl rfl (by decide) hg1 dX1_placeOfKey_10 ?_
  refine rr_imul hx hb dX1_placeOfKey_11 ?_
  refine rr_bipush hx hb dX1_placeOfKey_12 (by decide +kernel) ?_
  refine rr_iadd hx hb dX1_placeOfKey_14 ?_
  refine rr_bipush hx hb dX1_placeOfKey_15 (by decide +kernel) ?_
  obtain ⟨hg2, h⟩ := rr_c_some h
  refine rr_irem hx hb dX1_placeOfKey_17 ⟨hg2.1, hg2.2, by decide, by decide⟩ ?_
  exact hret _ _ _ h dX1_placeOfKey_18
-- RoomRing$Ring.layKey
abbrev rm_X1_layKey : Room := { frames := 1, cells := 0, slots := 0, locals := 21 }
theorem hd_X1_layKey : yX1_layKey.cls ≠ "java/lang/invoke/MethodHandle" ∧ yX1_layKey.cls ≠ "java/lang/invoke/VarHandle" ∧ (parseMethodDescriptor yX1_layKey.desc).map (fun d => d.parameters.length) = some 1 := by decide +kernel
set_option maxHeartbeats 4000000 in
set_option maxRecDepth 100000 in
theorem kX1_layKey (l : Launch) (g : rr_G) (ad : Nat → Nat) (sz : Nat) (x1 : Int) (σ : rr_T) (out : rr_T) (h : M1_layKey x1 σ = some out) : Met l yX1_layKey wsX1_layKey rm_X1_layKey (rr_P g [.ref (ad 0), .int (rr_i x1)] (rr_wR g ad σ) sz) (rr_Qv g (rr_wR g ad out) (va_A (rr_wR g ad σ) sz)) 0 0 (va_A (rr_wR g ad σ) sz) := by
  refine rr_rwV (cc := cX1_layKey) (maxL := 6) (fun σ => rr_wR g ad σ) σ out (by decide) rfl (Nat.le_of_ble_eq_true rfl) ?_
  intro p e s m ar below meth c Q ls A hx hb hml hown hts hK hA hP hD hS hret hl
  have hP : va_P g.1 vwCl (rr_wR g ad σ) s.heap := hP
  have hD : va_D A (rr_wR g ad σ) := hD
  have hown : s.vm.findClass RX1 = some m.cls := hown
  have hl : lv_has ls 6 [(0, .ref (ad 0)), (1, .int (rr_i x1))] := hl
  have hinX1 : ∀ w ∈ u_ws RX1 TX1 8, w ∈ wsX1_layKey := by decide +kernel
  have hk_0 : (Cond.fieldLink RX1 31 "RoomRing$Ring" "keyHosts" "[I").before ar s = true := hts _ (List.mem_of_getElem? (i := 1) (by decide +kernel))
  have hk_1 : (Cond.fieldLink RX1 34 "RoomRing$Ring" "passed" "[I").before ar s = true := hts _ (List.mem_of_getElem? (i := 2) (by decide +kernel))
  have hk_2 : (Cond.fieldLink RX1 37 "RoomRing$Ring" "far" "[I").before ar s = true := hts _ (List.mem_of_getElem? (i := 3) (by decide +kernel))
  have hk_3 : (Cond.fieldLink RX1 18 "RoomRing$Ring" "owners" "[I").before ar s = true := hts _ (List.mem_of_getElem? (i := 4) (by decide +kernel))
  have hk_4 : (Cond.fieldLink RX1 28 "RoomRing$Ring" "loads" "[I").before ar s = true := hts _ (List.mem_of_getElem? (i := 5) (by decide +kernel))
  have hk_5 : (Cond.fieldLink RX1 25 "RoomRing$Ring" "bounds" "[I").before ar s = true := hts _ (List.mem_of_getElem? (i := 6) (by decide +kernel))
  unfold M1_layKey at h
  have hL1_layKey_32 : ∀ (x1 : Int) (K : Option rr_T) (σ : rr_T) (H : Heap) (locs : List Loc), va_P g.1 vwCl (rr_wR g ad σ) H → va_D A (rr_wR g ad σ) → va_S A s.heap H locs → ∀ (n : Nat) (x2 : Int) (x3 : Int) (x4 : Int) (ls : Array Slot), L1_layKey_32 σ x1 K n x2 x3 x4 = some out → lv_has ls 6 [(0, .ref (ad 0)), (1, .int (rr_i x1)), (2, .int (rr_i x2)), (3, .int (rr_i x3)), (4, .int (rr_i x4))] → (∀ (ls : Array Slot), K = some out → lv_has ls 6 [] → W p l e rm_X1_layKey s m ar below meth c H locs 0 0 Q (F0 m 125 ls [])) → W p l e rm_X1_layKey s m ar below meth c H locs 0 0 Q (F0 m 32 ls []) := by
    intro x1 K σ H locs hP hD hS n
    induction n with
    | zero => intro x2 x3 x4 ls h hl hk; cases h
    | succ n ih =>
      intro x2 x3 x4 ls h hl hk
      rw [L1_layKey_32_s] at h
      refine lv_iload hx hb dX1_layKey_32 (lv_at hl 4 rfl) ?_
      refine rr_bipush hx hb dX1_layKey_34 (by decide +kernel) ?_
      obtain ⟨hg4, h⟩ := rr_c_some h
      refine rr_icmp_ge (tgt := 125) hx hb dX1_layKey_36 (by decide) hg4 (by decide) (fun c5 => ?_) (fun c5 => ?_)
      · rw [if_pos c5] at h
        exact hk ls h (lv_sub hl [] rfl)
      · rw [if_neg c5] at h
        refine lv_aload_n hx hb dX1_layKey_39 rfl (lv_at hl 0 rfl) ?_
        refine va_get (D := g.1) (ci := 1) (v := .ref (ad 1)) (C := RX1) (T := TX1) (N := 8) hx hb hts hinX1 hown hK.1 hP 0 rfl rfl 1 (by decide) hk_3 (fun _ h9 => h9) rfl dX1_layKey_40 ?_
        refine lv_iload_n hx hb dX1_layKey_43 rfl (lv_at hl 2 rfl) ?_
        obtain ⟨hg6, h⟩ := rr_c_some h
        refine rr_iald (f := (σ 7)) (N := 101) hx hb hK hP 1 rfl rfl (by decide) hg6 dX1_layKey_44 ?_
        refine lv_istore (lv' := [(5, .int (rr_i (σ 7 x2))), (0, .ref (ad 0)), (1, .int (rr_i x1)), (2, .int (rr_i x2)), (3, .int (rr_i x3)), (4, .int (rr_i x4))]) hx hb dX1_layKey_45 hl (by decide) rfl (fun ls hl => ?_)
        refine lv_iload hx hb dX1_layKey_47 (lv_at hl 0 rfl) ?_
        refine rr_iconst hx hb dX1_layKey_49 ?_
        obtain ⟨hg7, h⟩ := rr_c_some h
        refine rr_icmp_eq (tgt := 105) hx hb dX1_layKey_50 (by decide) hg7 (by decide) (fun c8 => ?_) (fun c8 => ?_)
        · rw [if_pos c8] at h
          refine lv_iload hx hb dX1_layKey_105 (lv_at hl 0 rfl) ?_
          refine rr_iconst hx hb dX1_layKey_107 ?_
          refine rr_icmp_eq (tgt := 114) hx hb dX1_layKey_108 (by decide) hg7 (by decide) (fun c9 => ?_) (fun c9 => ?_)
          · rw [if_pos c9] at h
            refine lv_iload_n hx hb dX1_layKey_114 rfl (lv_at hl 3 rfl) ?_
            obtain ⟨v10, hw11, h⟩ := rr_b_some h
            refine rr_callI (va_runS (As := [.int (rr_i x2)]) (rest := []) ⟨hx, hb, hml, hown, hts⟩ (kX1_placeBehind l g x2 v10 hw11) (va_cwS 1 hts gX1_layKey_X1_placeBehind rfl rfl rfl hd_X1_placeBehind ⟨Nat.le_of_ble_eq_true rfl, Nat.le_of_ble_eq_true rfl⟩) ⟨rr_R_blind, rr_R_pre hK (hP.sub (ws' := ([] : va_W)) [] rfl)⟩ rfl rfl hl.1 rfl (lv_room (Nat.le_of_ble_eq_true rfl)) dX1_layKey_115 ⟨Nat.zero_le _, Nat.zero_le _⟩) ?_
            refine lv_istore_n (lv' := [(2, .int (rr_i v10)), (5, .int (rr_i (σ 7 x2))), (0, .ref (ad 0)), (1, .int (rr_i x1)), (3, .int (rr_i x3)), (4, .int (rr_i x4))]) hx hb dX1_layKey_118 rfl hl (by decide) rfl (fun ls hl => ?_)
            refine rr_iinc (k := 5) (a := x4) (lv' := [(4, .int (rr_i (x4 + 1))), (2, .int (rr_i v10)), (5, .int (rr_i (σ 7 x2))), (0, .ref (ad 0)), (1, .int (rr_i x1)), (3, .int (rr_i x3))]) hx hb dX1_layKey_119 hl rfl (by decide) rfl (fun ls hl => ?_)
            refine lv_goto (tgt := 32) hx hb dX1_layKey_122 (by decide) ?_
            exact ih v10 x3 (x4 + 1) ls h (lv_sub hl [3, 4, 1, 5, 0] rfl) hk
          · rw [if_neg c9] at h
            refine rr_iinc (k := 4) (a := x3) (lv' := [(3, .int (rr_i (x3 + 1))), (5, .int (rr_i (σ 7 x2))), (0, .ref (ad 0)), (1, .int (rr_i x1)), (2, .int (rr_i x2)), (4, .int (rr_i x4))]) hx hb dX1_layKey_111 hl rfl (by decide) rfl (fun ls hl => ?_)
            refine lv_iload_n hx hb dX1_layKey_114 rfl (lv_at hl 4 rfl) ?_
            obtain ⟨v12, hw13, h⟩ := rr_b_some h
            refine rr_callI (va_runS (As := [.int (rr_i x2)]) (rest := []) ⟨hx, hb, hml, hown, hts⟩ (kX1_placeBehind l g x2 v12 hw13) (va_cwS 1 hts gX1_layKey_X1_placeBehind rfl rfl rfl hd_X1_placeBehind ⟨Nat.le_of_ble_eq_true rfl, Nat.le_of_ble_eq_true rfl⟩) ⟨rr_R_blind, rr_R_pre hK (hP.sub (ws' := ([] : va_W)) [] rfl)⟩ rfl rfl hl.1 rfl (lv_room (Nat.le_of_ble_eq_true rfl)) dX1_layKey_115 ⟨Nat.zero_le _, Nat.zero_le _⟩) ?_
            refine lv_istore_n (lv' := [(2, .int (rr_i v12)), (3, .int (rr_i (x3 + 1))), (5, .int (rr_i (σ 7 x2))), (0, .ref (ad 0)), (1, .int (rr_i x1)), (4, .int (rr_i x4))]) hx hb dX1_layKey_118 rfl hl (by decide) rfl (fun ls hl => ?_)
            refine rr_iinc (k := 5) (a := x4) (lv' := [(4, .int (rr_i (x4 + 1))), (2, .int (rr_i v12)), (3, .int (rr_i (x3 + 1))), (5, .int (rr_i (σ 7 x2))), (0, .ref (ad 0)), (1, .int (rr_i x1))]) hx hb dX1_layKey_119 hl rfl (by decide) rfl (fun ls hl => ?_)
            refine lv_goto (tgt := 32) hx hb dX1_layKey_122 (by decide) ?_
            exact ih v12 (x3 + 1) (x4 + 1) ls h (lv_sub hl [4, 5, 1, 2, 0] rfl) hk
        · rw [if_neg c8] at h
          refine lv_aload_n hx hb dX1_layKey_53 rfl (lv_at hl 1 rfl) ?_
          refine va_get (D := g.1) (ci := 1) (v := .ref (ad 4)) (C := RX1) (T := TX1) (N := 8) hx hb hts hinX1 hown hK.1 hP 0 rfl rfl 4 (by decide) hk_4 (fun _ h9 => h9) rfl dX1_layKey_54 ?_
          refine lv_iload hx hb dX1_layKey_57 (lv_at hl 0 rfl) ?_
          obtain ⟨hg14, h⟩ := rr_c_some h
          refine rr_iald (f := (σ 10)) (N := 6) hx hb hK hP 4 rfl rfl (by decide) hg14 dX1_layKey_59 ?_
          refine lv_aload_n hx hb dX1_layKey_60 rfl (lv_at hl 1 rfl) ?_
          refine va_get (D := g.1) (ci := 1) (v := .ref (ad 3)) (C := RX1) (T := TX1) (N := 8) hx hb hts hinX1 hown hK.1 hP 0 rfl rfl 3 (by decide) hk_5 (fun _ h9 => h9) rfl dX1_layKey_61 ?_
          refine lv_iload hx hb dX1_layKey_64 (lv_at hl 0 rfl) ?_
          refine rr_iald (f := (σ 9)) (N := 6) hx hb hK hP 3 rfl rfl (by decide) hg14 dX1_layKey_66 ?_
          obtain ⟨hg15, h⟩ := rr_c_some h
          refine rr_icmp_ge (tgt := 105) hx hb dX1_layKey_67 (by decide) hg15.1 hg15.2 (fun c16 => ?_) (fun c16 => ?_)
          · rw [if_pos c16] at h
            refine lv_iload hx hb dX1_layKey_105 (lv_at hl 0 rfl) ?_
            refine rr_iconst hx hb dX1_layKey_107 ?_
            refine rr_icmp_eq (tgt := 114) hx hb dX1_layKey_108 (by decide) hg7 (by decide) (fun c17 => ?_) (fun c17 => ?_)
            · rw [if_pos c17] at h
              refine lv_iload_n hx hb dX1_layKey_114 rfl (lv_at hl 3 rfl) ?_
              obtain ⟨v18, hw19, h⟩ := rr_b_some h
              refine rr_callI (va_runS (As := [.int (rr_i x2)]) (rest := []) ⟨hx, hb, hml, hown, hts⟩ (kX1_placeBehind l g x2 v18 hw19) (va_cwS 1 hts gX1_layKey_X1_placeBehind rfl rfl rfl hd_X1_placeBehind ⟨Nat.le_of_ble_eq_true rfl, Nat.le_of_ble_eq_true rfl⟩) ⟨rr_R_blind, rr_R_pre hK (hP.sub (ws' := ([] : va_W)) [] rfl)⟩ rfl rfl hl.1 rfl (lv_room (Nat.le_of_ble_eq_true rfl)) dX1_layKey_115 ⟨Nat.zero_le _, Nat.zero_le _⟩) ?_
              refine lv_istore_n (lv' := [(2, .int (rr_i v18)), (5, .int (rr_i (σ 7 x2))), (0, .ref (ad 0)), (1, .int (rr_i x1)), (3, .int (rr_i x3)), (4, .int (rr_i x4))]) hx hb dX1_layKey_118 rfl hl (by decide) rfl (fun ls hl => ?_)
              refine rr_iinc (k := 5) (a := x4) (lv' := [(4, .int (rr_i (x4 + 1))), (2, .int (rr_i v18)), (5, .int (rr_i (σ 7 x2))), (0, .ref (ad 0)), (1, .int (rr_i x1)), (3, .int (rr_i x3))]) hx hb dX1_layKey_119 hl rfl (by decide) rfl (fun ls hl => ?_)
              refine lv_goto (tgt := 32) hx hb dX1_layKey_122 (by decide) ?_
              exact ih v18 x3 (x4 + 1) ls h (lv_sub hl [3, 4, 1, 5, 0] rfl) hk
            · rw [if_neg c17] at h
              refine rr_iinc (k := 4) (a := x3) (lv' := [(3, .int (rr_i (x3 + 1))), (5, .int (rr_i (σ 7 x2))), (0, .ref (ad 0)), (1, .int (rr_i x1)), (2, .int (rr_i x2)), (4, .int (rr_i x4))]) hx hb dX1_layKey_111 hl rfl (by decide) rfl (fun ls hl => ?_)
              refine lv_iload_n hx hb dX1_layKey_114 rfl (lv_at hl 4 rfl) ?_
              obtain ⟨v20, hw21, h⟩ := rr_b_some h
              refine rr_callI (va_runS (As := [.int (rr_i x2)]) (rest := []) ⟨hx, hb, hml, hown, hts⟩ (kX1_placeBehind l g x2 v20 hw21) (va_cwS 1 hts gX1_layKey_X1_placeBehind rfl rfl rfl hd_X1_placeBehind ⟨Nat.le_of_ble_eq_true rfl, Nat.le_of_ble_eq_true rfl⟩) ⟨rr_R_blind, rr_R_pre hK (hP.sub (ws' := ([] : va_W)) [] rfl)⟩ rfl rfl hl.1 rfl (lv_room (Nat.le_of_ble_eq_true rfl)) dX1_layKey_115 ⟨Nat.zero_le _, Nat.zero_le _⟩) ?_
              refine lv_istore_n (lv' := [(2, .int (rr_i v20)), (3, .int (rr_i (x3 + 1))), (5, .int (rr_i (σ 7 x2))), (0, .ref (ad 0)), (1, .int (rr_i x1)), (4, .int (rr_i x4))]) hx hb dX1_layKey_118 rfl hl (by decide) rfl (fun ls hl => ?_)
              refine rr_iinc (k := 5) (a := x4) (lv' := [(4, .int (rr_i (x4 + 1))), (2, .int (rr_i v20)), (3, .int (rr_i (x3 + 1))), (5, .int (rr_i (σ 7 x2))), (0, .ref (ad 0)), (1, .int (rr_i x1))]) hx hb dX1_layKey_119 hl rfl (by decide) rfl (fun ls hl => ?_)
              refine lv_goto (tgt := 32) hx hb dX1_layKey_122 (by decide) ?_
              exact ih v20 (x3 + 1) (x4 + 1) ls h (lv_sub hl [4, 5, 1, 2, 0] rfl) hk
          · rw [if_neg c16] at h
            refine lv_aload_n hx hb dX1_layKey_70 rfl (lv_at hl 1 rfl) ?_
            refine va_get (D := g.1) (ci := 1) (v := .ref (ad 5)) (C := RX1) (T := TX1) (N := 8) hx hb hts hinX1 hown hK.1 hP 0 rfl rfl 5 (by decide) hk_0 (fun _ h9 => h9) rfl dX1_layKey_71 ?_
            refine lv_iload_n hx hb dX1_layKey_74 rfl (lv_at hl 2 rfl) ?_
            refine lv_iload hx hb dX1_layKey_75 (lv_at hl 0 rfl) ?_
            obtain ⟨hg22, h⟩ := rr_c_some h
            refine rr_iast (f := (σ 11)) (N := 40) hx hb hK hP hD hS 5 rfl rfl (by decide) hg22 dX1_layKey_77 (fun H locs hP hD hS => ?_)
            have hP : va_P g.1 vwCl (rr_wR g ad (rr_s σ 11 x1 (σ 7 x2))) H := hP
            have hD : va_D A (rr_wR g ad (rr_s σ 11 x1 (σ 7 x2))) := hD
            refine lv_aload_n hx hb dX1_layKey_78 rfl (lv_at hl 1 rfl) ?_
            refine va_get (D := g.1) (ci := 1) (v := .ref (ad 6)) (C := RX1) (T := TX1) (N := 8) hx hb hts hinX1 hown hK.1 hP 0 rfl rfl 6 (by decide) hk_1 (fun _ h9 => h9) rfl dX1_layKey_79 ?_
            refine lv_iload_n hx hb dX1_layKey_82 rfl (lv_at hl 2 rfl) ?_
            refine lv_iload_n hx hb dX1_layKey_83 rfl (lv_at hl 4 rfl) ?_
            refine rr_iast (f := (σ 12)) (N := 40) hx hb hK hP hD hS 6 rfl rfl (by decide) hg22 dX1_layKey_84 (fun H locs hP hD hS => ?_)
            have hP : va_P g.1 vwCl (rr_wR g ad (rr_s (rr_s σ 11 x1 (σ 7 x2)) 12 x1 x3)) H := hP
            have hD : va_D A (rr_wR g ad (rr_s (rr_s σ 11 x1 (σ 7 x2)) 12 x1 x3)) := hD
            refine lv_aload_n hx hb dX1_layKey_85 rfl (lv_at hl 1 rfl) ?_
            refine va_get (D := g.1) (ci := 1) (v := .ref (ad 7)) (C := RX1) (T := TX1) (N := 8) hx hb hts hinX1 hown hK.1 hP 0 rfl rfl 7 (by decide) hk_2 (fun _ h9 => h9) rfl dX1_layKey_86 ?_
            refine lv_iload_n hx hb dX1_layKey_89 rfl (lv_at hl 2 rfl) ?_
            refine lv_iload hx hb dX1_layKey_90 (lv_at hl 5 rfl) ?_
            refine rr_iast (f := (σ 13)) (N := 40) hx hb hK hP hD hS 7 rfl rfl (by decide) hg22 dX1_layKey_92 (fun H locs hP hD hS => ?_)
            have hP : va_P g.1 vwCl (rr_wR g ad (rr_s (rr_s (rr_s σ 11 x1 (σ 7 x2)) 12 x1 x3) 13 x1 x4)) H := hP
            have hD : va_D A (rr_wR g ad (rr_s (rr_s (rr_s σ 11 x1 (σ 7 x2)) 12 x1 x3) 13 x1 x4)) := hD
            refine lv_aload_n hx hb dX1_layKey_93 rfl (lv_at hl 1 rfl) ?_
            refine va_get (D := g.1) (ci := 1) (v := .ref (ad 4)) (C := RX1) (T := TX1) (N := 8) hx hb hts hinX1 hown hK.1 hP 0 rfl rfl 4 (by decide) hk_4 (fun _ h9 => h9) rfl dX1_layKey_94 ?_
            refine lv_iload hx hb dX1_layKey_97 (lv_at hl 0 rfl) ?_
            refine lv_dup2_11 hx hb dX1_layKey_99 rfl rfl ?_
            refine rr_iald (f := (σ 10)) (N := 6) hx hb hK hP 4 rfl rfl (by decide) hg14 dX1_layKey_100 ?_
            refine rr_iconst hx hb dX1_layKey_101 ?_
            refine rr_iadd hx hb dX1_layKey_102 ?_
            refine rr_iast (f := (σ 10)) (N := 6) hx hb hK hP hD hS 4 rfl rfl (by decide) hg14 dX1_layKey_103 (fun H locs hP hD hS => ?_)
            have hP : va_P g.1 vwCl (rr_wR g ad (rr_s (rr_s (rr_s (rr_s σ 11 x1 (σ 7 x2)) 12 x1 x3) 13 x1 x4) 10 (σ 7 x2) ((σ 10 (σ 7 x2)) + 1))) H := hP
            have hD : va_D A (rr_wR g ad (rr_s (rr_s (rr_s (rr_s σ 11 x1 (σ 7 x2)) 12 x1 x3) 13 x1 x4) 10 (σ 7 x2) ((σ 10 (σ 7 x2)) + 1))) := hD
            exact hret _ _ _ _ _ h hP hD hS dX1_layKey_104
  refine lv_aload_n hx hb dX1_layKey_0 rfl (lv_at hl 0 rfl) ?_
  refine va_get (D := g.1) (ci := 1) (v := .ref (ad 5)) (C := RX1) (T := TX1) (N := 8) hx hb hts hinX1 hown hK.1 hP 0 rfl rfl 5 (by decide) hk_0 (fun _ h9 => h9) rfl dX1_layKey_1 ?_
  refine lv_iload_n hx hb dX1_layKey_4 rfl (lv_at hl 1 rfl) ?_
  refine rr_iconst hx hb dX1_layKey_5 ?_
  obtain ⟨hg1, h⟩ := rr_c_some h
  refine rr_iast (f := (σ 11)) (N := 40) hx hb hK hP hD hS 5 rfl rfl (by decide) hg1 dX1_layKey_6 (fun H locs hP hD hS => ?_)
  have hP : va_P g.1 vwCl (rr_wR g ad (rr_s σ 11 x1 (-1))) H := hP
  have hD : va_D A (rr_wR g ad (rr_s σ 11 x1 (-1))) := hD
  refine lv_aload_n hx hb dX1_layKey_7 rfl (lv_at hl 0 rfl) ?_
  refine va_get (D := g.1) (ci := 1) (v := .ref (ad 6)) (C := RX1) (T := TX1) (N := 8) hx hb hts hinX1 hown hK.1 hP 0 rfl rfl 6 (by decide) hk_1 (fun _ h9 => h9) rfl dX1_layKey_8 ?_
  refine lv_iload_n hx hb dX1_layKey_11 rfl (lv_at hl 1 rfl) ?_
  refine rr_iconst hx hb dX1_layKey_12 ?_
  refine rr_iast (f := (σ 12)) (N := 40) hx hb hK hP hD hS 6 rfl rfl (by decide) hg1 dX1_layKey_13 (fun H locs hP hD hS => ?_)
  have hP : va_P g.1 vwCl (rr_wR g ad (rr_s (rr_s σ 11 x1 (-1)) 12 x1 (-1))) H := hP
  have hD : va_D A (rr_wR g ad (rr_s (rr_s σ 11 x1 (-1)) 12 x1 (-1))) := hD
  refine lv_aload_n hx hb dX1_layKey_14 rfl (lv_at hl 0 rfl) ?_
  refine va_get (D := g.1) (ci := 1) (v := .ref (ad 7)) (C := RX1) (T := TX1) (N := 8) hx hb hts hinX1 hown hK.1 hP 0 rfl rfl 7 (by decide) hk_2 (fun _ h9 => h9) rfl dX1_layKey_15 ?_
  refine lv_iload_n hx hb dX1_layKey_18 rfl (lv_at hl 1 rfl) ?_
  refine rr_iconst hx hb dX1_layKey_19 ?_
  refine rr_iast (f := (σ 13)) (N := 40) hx hb hK hP hD hS 7 rfl rfl (by decide) hg1 dX1_layKey_20 (fun H locs hP hD hS => ?_)
  have hP : va_P g.1 vwCl (rr_wR g ad (rr_s (rr_s (rr_s σ 11 x1 (-1)) 12 x1 (-1)) 13 x1 (-1))) H := hP
  have hD : va_D A (rr_wR g ad (rr_s (rr_s (rr_s σ 11 x1 (-1)) 12 x1 (-1)) 13 x1 (-1))) := hD
  refine lv_aload_n hx hb dX1_layKey_21 rfl (lv_at hl 0 rfl) ?_
  refine lv_iload_n hx hb dX1_layKey_22 rfl (lv_at hl 1 rfl) ?_
  obtain ⟨v2, hw3, h⟩ := rr_b_some h
  refine rr_callI (va_runV (As := [.int (rr_i x1)]) (rest := []) ⟨hx, hb, hml, hown, hts⟩ (kX1_placeOfKey l g ad x1 (rr_s (rr_s (rr_s σ 11 x1 (-1)) 12 x1 (-1)) 13 x1 (-1)) v2 hw3) (cwV 1 hts gX1_layKey_X1_placeOfKey rfl rfl rfl ⟨rfl, hd_X1_placeOfKey⟩ ⟨Nat.le_of_ble_eq_true rfl, Nat.le_of_ble_eq_true rfl⟩) ⟨rr_R_blind, va_recv hK.1 hP (ci := 1) (q0 := 0) rfl rfl, rr_R_pre hK hP⟩ rfl rfl hl.1 rfl (lv_room (Nat.le_of_ble_eq_true rfl)) dX1_layKey_23 ⟨Nat.zero_le _, Nat.zero_le _⟩) ?_
  refine lv_istore_n (lv' := [(2, .int (rr_i v2)), (0, .ref (ad 0)), (1, .int (rr_i x1))]) hx hb dX1_layKey_26 rfl hl (by decide) rfl (fun ls hl => ?_)
  refine rr_iconst hx hb dX1_layKey_27 ?_
  refine lv_istore_n (lv' := [(3, .int (rr_i 0)), (2, .int (rr_i v2)), (0, .ref (ad 0)), (1, .int (rr_i x1))]) hx hb dX1_layKey_28 rfl hl (by decide) rfl (fun ls hl => ?_)
  refine rr_iconst hx hb dX1_layKey_29 ?_
  refine lv_istore (lv' := [(4, .int (rr_i 0)), (3, .int (rr_i 0)), (2, .int (rr_i v2)), (0, .ref (ad 0)), (1, .int (rr_i x1))]) hx hb dX1_layKey_30 hl (by decide) rfl (fun ls hl => ?_)
  refine hL1_layKey_32 x1 _ (rr_s (rr_s (rr_s σ 11 x1 (-1)) 12 x1 (-1)) 13 x1 (-1)) _ _ hP hD hS 1000 v2 0 0 ls h (lv_sub hl [3, 4, 2, 1, 0] rfl) (fun ls h hl => ?_)
  exact hret _ _ _ _ _ h hP hD hS dX1_layKey_125
-- RoomRing$Ring.lay
abbrev rm_X1_lay : Room := { frames := 3, cells := 0, slots := 0, locals := 67 }
theorem hd_X1_lay : yX1_lay.cls ≠ "java/lang/invoke/MethodHandle" ∧ yX1_lay.cls ≠ "java/lang/invoke/VarHandle" ∧ (parseMethodDescriptor yX1_lay.desc).map (fun d => d.parameters.length) = some 0 := by decide +kernel
set_option maxHeartbeats 4000000 in
set_option maxRecDepth 100000 in
theorem kX1_lay (l : Launch) (g : rr_G) (ad : Nat → Nat) (sz : Nat) (σ : rr_T) (out : rr_T) (h : M1_lay σ = some out) : Met l yX1_lay wsX1_lay rm_X1_lay (rr_P g [.ref (ad 0)] (rr_wR g ad σ) sz) (rr_Qv g (rr_wR g ad out) (va_A (rr_wR g ad σ) sz)) 0 0 (va_A (rr_wR g ad σ) sz) := by
  refine rr_rwV (cc := cX1_lay) (maxL := 2) (fun σ => rr_wR g ad σ) σ out (by decide) rfl (Nat.le_of_ble_eq_true rfl) ?_
  intro p e s m ar below meth c Q ls A hx hb hml hown hts hK hA hP hD hS hret hl
  have hP : va_P g.1 vwCl (rr_wR g ad σ) s.heap := hP
  have hD : va_D A (rr_wR g ad σ) := hD
  have hown : s.vm.findClass RX1 = some m.cls := hown
  have hl : lv_has ls 2 [(0, .ref (ad 0))] := hl
  have hinX1 : ∀ w ∈ u_ws RX1 TX1 8, w ∈ wsX1_lay := by decide +kernel
  have hinX3 : ∀ w ∈ u_ws RX3 TX3 7, w ∈ wsX1_lay := by decide +kernel
  have hk_0 : (Cond.fieldLink RX1 12 "RoomRing$Ring" "stock" "LRoomRing$Stock;").before ar s = true := hts _ (List.mem_of_getElem? (i := 1) (by decide +kernel))
  have hk_1 : (Cond.fieldLink RX1 49 "RoomRing$Stock" "keyCount" "I").before ar s = true := hts _ (List.mem_of_getElem? (i := 2) (by decide +kernel))
  unfold M1_lay at h
  have hL1_lay_10 : ∀ (K : rr_T → Option rr_T) (n : Nat) (x1 : Int) (σ : rr_T) (H : Heap) (locs : List Loc) (ls : Array Slot), L1_lay_10 K n x1 σ = some out → va_P g.1 vwCl (rr_wR g ad σ) H → va_D A (rr_wR g ad σ) → va_S A s.heap H locs → lv_has ls 2 [(0, .ref (ad 0)), (1, .int (rr_i x1))] → (∀ (τ9 : rr_T) (H : Heap) (locs : List Loc) (ls : Array Slot), K τ9 = some out → va_P g.1 vwCl (rr_wR g ad τ9) H → va_D A (rr_wR g ad τ9) → va_S A s.heap H locs → lv_has ls 2 [] → W p l e rm_X1_lay s m ar below meth c H locs 0 0 Q (F0 m 32 ls [])) → W p l e rm_X1_lay s m ar below meth c H locs 0 0 Q (F0 m 10 ls []) := by
    intro K n
    induction n with
    | zero => intro x1 σ H locs ls h hP hD hS hl hk; cases h
    | succ n ih =>
      intro x1 σ H locs ls h hP hD hS hl hk
      rw [L1_lay_10_s] at h
      refine lv_iload_n hx hb dX1_lay_10 rfl (lv_at hl 1 rfl) ?_
      refine lv_aload_n hx hb dX1_lay_11 rfl (lv_at hl 0 rfl) ?_
      refine va_get (D := g.1) (ci := 1) (v := .ref (ad 8)) (C := RX1) (T := TX1) (N := 8) hx hb hts hinX1 hown hK.1 hP 0 rfl rfl 0 (by decide) hk_0 (fun _ h9 => h9) rfl dX1_lay_12 ?_
      refine va_get (D := g.1) (ci := 3) (v := .int (rr_i (σ 4 0))) (C := RX3) (T := TX3) (N := 7) hx hb hts hinX3 hown hK.1 hP 8 rfl rfl 4 (by decide) hk_1 (fun _ h9 => h9) rfl dX1_lay_15 ?_
      obtain ⟨hg5, h⟩ := rr_c_some h
      refine rr_icmp_ge (tgt := 32) hx hb dX1_lay_18 (by decide) hg5.1 hg5.2 (fun c6 => ?_) (fun c6 => ?_)
      · rw [if_pos c6] at h
        exact hk σ _ _ ls h hP hD hS (lv_sub hl [] rfl)
      · rw [if_neg c6] at h
        refine lv_aload_n hx hb dX1_lay_21 rfl (lv_at hl 0 rfl) ?_
        refine lv_iload_n hx hb dX1_lay_22 rfl (lv_at hl 1 rfl) ?_
        obtain ⟨v7, hw8, h⟩ := rr_b_some h
        refine rr_allV hD hS hA (va_runV (As := [.int (rr_i x1)]) (rest := []) ⟨hx, hb, hml, hown, hts⟩ (kX1_layKey l g ad _ x1 σ v7 hw8) (cwV 1 hts gX1_lay_X1_layKey rfl rfl rfl ⟨rfl, hd_X1_layKey⟩ ⟨Nat.le_of_ble_eq_true rfl, Nat.le_of_ble_eq_true rfl⟩) ⟨rr_P_blind, va_recv hK.1 hP (ci := 1) (q0 := 0) rfl rfl, rr_P_pre hK hP hD⟩ rfl rfl hl.1 rfl (lv_room (Nat.le_of_ble_eq_true rfl)) dX1_lay_23 ⟨Nat.zero_le _, Nat.zero_le _⟩) (fun H locs hP hD hS => ?_)
        refine rr_iinc (k := 1) (a := x1) (lv' := [(1, .int (rr_i (x1 + 1))), (0, .ref (ad 0))]) hx hb dX1_lay_26 hl rfl (by decide) rfl (fun ls hl => ?_)
        refine lv_goto (tgt := 10) hx hb dX1_lay_29 (by decide) ?_
        exact ih (x1 + 1) v7 _ _ ls h hP hD hS (lv_sub hl [1, 0] rfl) hk
  refine lv_aload_n hx hb dX1_lay_0 rfl (lv_at hl 0 rfl) ?_
  obtain ⟨v1, hw2, h⟩ := rr_b_some h
  refine rr_allV hD hS hA (va_runV (As := []) (rest := []) ⟨hx, hb, hml, hown, hts⟩ (kX1_setMarks l g ad _ σ v1 hw2) (cwV 0 hts gX1_lay_X1_setMarks rfl rfl rfl ⟨rfl, hd_X1_setMarks⟩ ⟨Nat.le_of_ble_eq_true rfl, Nat.le_of_ble_eq_true rfl⟩) ⟨rr_P_blind, va_recv hK.1 hP (ci := 1) (q0 := 0) rfl rfl, rr_P_pre hK hP hD⟩ rfl rfl hl.1 rfl (lv_room (Nat.le_of_ble_eq_true rfl)) dX1_lay_1 ⟨Nat.zero_le _, Nat.zero_le _⟩) (fun H locs hP hD hS => ?_)
  refine lv_aload_n hx hb dX1_lay_4 rfl (lv_at hl 0 rfl) ?_
  obtain ⟨v3, hw4, h⟩ := rr_b_some h
  refine rr_allV hD hS hA (va_runV (As := []) (rest := []) ⟨hx, hb, hml, hown, hts⟩ (kX1_setBounds l g ad _ v1 v3 hw4) (cwV 0 hts gX1_lay_X1_setBounds rfl rfl rfl ⟨rfl, hd_X1_setBounds⟩ ⟨Nat.le_of_ble_eq_true rfl, Nat.le_of_ble_eq_true rfl⟩) ⟨rr_P_blind, va_recv hK.1 hP (ci := 1) (q0 := 0) rfl rfl, rr_P_pre hK hP hD⟩ rfl rfl hl.1 rfl (lv_room (Nat.le_of_ble_eq_true rfl)) dX1_lay_5 ⟨Nat.zero_le _, Nat.zero_le _⟩) (fun H locs hP hD hS => ?_)
  refine rr_iconst hx hb dX1_lay_8 ?_
  refine lv_istore_n (lv' := [(1, .int (rr_i 0)), (0, .ref (ad 0))]) hx hb dX1_lay_9 rfl hl (by decide) rfl (fun ls hl => ?_)
  refine hL1_lay_10 _ 1000 0 v3 _ _ ls h hP hD hS (lv_sub hl [1, 0] rfl) (fun σ_10 H locs ls h hP hD hS hl => ?_)
  exact hret _ _ _ _ _ h hP hD hS dX1_lay_32
-- RoomRing$Ring.hostNameOfKey
abbrev rm_X1_hostNameOfKey : Room := { frames := 1, cells := 0, slots := 0, locals := 22 }
theorem hd_X1_hostNameOfKey : yX1_hostNameOfKey.cls ≠ "java/lang/invoke/MethodHandle" ∧ yX1_hostNameOfKey.cls ≠ "java/lang/invoke/VarHandle" ∧ (parseMethodDescriptor yX1_hostNameOfKey.desc).map (fun d => d.parameters.length) = some 1 := by decide +kernel
set_option maxHeartbeats 4000000 in
set_option maxRecDepth 100000 in
theorem kX1_hostNameOfKey (l : Launch) (g : rr_G) (ad : Nat → Nat) (x1 : Int) (σ : rr_T) (out : Int) (h : M1_hostNameOfKey x1 σ = some out) : Met l yX1_hostNameOfKey wsX1_hostNameOfKey rm_X1_hostNameOfKey (rr_R g [.ref (ad 0), .int (rr_i x1)] (rr_wR g ad σ)) (vp_Si (fun x => x = rr_i out)) 0 0 (fun _ => False) := by
  refine rr_roI (cc := cX1_hostNameOfKey) (maxL := 3) (by decide) rfl (Nat.le_of_ble_eq_true rfl) ?_
  intro p e s m ar below meth c Q ls hx hb hml hown hts hK hP hret hl
  have hown : s.vm.findClass RX1 = some m.cls := hown
  have hl : lv_has ls 3 [(0, .ref (ad 0)), (1, .int (rr_i x1))] := hl
  have hinX1 : ∀ w ∈ u_ws RX1 TX1 8, w ∈ wsX1_hostNameOfKey := by decide +kernel
  have hk_0 : (Cond.fieldLink RX1 12 "RoomRing$Ring" "stock" "LRoomRing$Stock;").before ar s = true := hts _ (List.mem_of_getElem? (i := 1) (by decide +kernel))
  have hk_1 : (Cond.fieldLink RX1 31 "RoomRing$Ring" "keyHosts" "[I").before ar s = true := hts _ (List.mem_of_getElem? (i := 2) (by decide +kernel))
  unfold M1_hostNameOfKey at h
  refine lv_aload_n hx hb dX1_hostNameOfKey_0 rfl (lv_at hl 0 rfl) ?_
  refine va_get (D := g.1) (ci := 1) (v := .ref (ad 8)) (C := RX1) (T := TX1) (N := 8) hx hb hts hinX1 hown hK.1 hP 0 rfl rfl 0 (by decide) hk_0 (fun _ h9 => h9) rfl dX1_hostNameOfKey_1 ?_
  refine lv_iload_n hx hb dX1_hostNameOfKey_4 rfl (lv_at hl 1 rfl) ?_
  obtain ⟨v1, hw2, h⟩ := rr_b_some h
  refine rr_callI (va_runV (As := [.int (rr_i x1)]) (rest := []) ⟨hx, hb, hml, hown, hts⟩ (kX3_findKey l g (fun k => ad (8 + k)) x1 σ v1 hw2) (cwV 1 hts gX1_hostNameOfKey_X3_findKey rfl rfl rfl ⟨rfl, hd_X3_findKey⟩ ⟨Nat.le_of_ble_eq_true rfl, Nat.le_of_ble_eq_true rfl⟩) ⟨rr_R_blind, va_recv hK.1 (hP.sub (ws' := rr_wS g (fun k => ad (8 + k)) σ) [8, 9, 10, 11] rfl) (ci := 3) (q0 := 0) rfl rfl, rr_R_pre hK (hP.sub (ws' := rr_wS g (fun k => ad (8 + k)) σ) [8, 9, 10, 11] rfl)⟩ rfl rfl hl.1 rfl (lv_room (Nat.le_of_ble_eq_true rfl)) dX1_hostNameOfKey_5 ⟨Nat.zero_le _, Nat.zero_le _⟩) ?_
  refine lv_istore_n (lv' := [(2, .int (rr_i v1)), (0, .ref (ad 0)), (1, .int (rr_i x1))]) hx hb dX1_hostNameOfKey_8 rfl hl (by decide) rfl (fun ls hl => ?_)
  refine lv_iload_n hx hb dX1_hostNameOfKey_9 rfl (lv_at hl 0 rfl) ?_
  obtain ⟨hg3, h⟩ := rr_c_some h
  refine rr_if_ge (tgt := 17) hx hb dX1_hostNameOfKey_10 (by decide) hg3 (fun c4 => ?_) (fun c4 => ?_)
  · rw [if_pos c4] at h
    refine lv_aload_n hx hb dX1_hostNameOfKey_17 rfl (lv_at hl 1 rfl) ?_
    refine va_get (D := g.1) (ci := 1) (v := .ref (ad 8)) (C := RX1) (T := TX1) (N := 8) hx hb hts hinX1 hown hK.1 hP 0 rfl rfl 0 (by decide) hk_0 (fun _ h9 => h9) rfl dX1_hostNameOfKey_18 ?_
    refine lv_aload_n hx hb dX1_hostNameOfKey_21 rfl (lv_at hl 1 rfl) ?_
    refine va_get (D := g.1) (ci := 1) (v := .ref (ad 5)) (C := RX1) (T := TX1) (N := 8) hx hb hts hinX1 hown hK.1 hP 0 rfl rfl 5 (by decide) hk_1 (fun _ h9 => h9) rfl dX1_hostNameOfKey_22 ?_
    refine lv_iload_n hx hb dX1_hostNameOfKey_25 rfl (lv_at hl 0 rfl) ?_
    obtain ⟨hg5, h⟩ := rr_c_some h
    refine rr_iald (f := (σ 11)) (N := 40) hx hb hK hP 5 rfl rfl (by decide) hg5 dX1_hostNameOfKey_26 ?_
    obtain ⟨v6, hw7, h⟩ := rr_b_some h
    refine rr_callI (va_runV (As := [.int (rr_i (σ 11 v1))]) (rest := []) ⟨hx, hb, hml, hown, hts⟩ (kX3_nameOf l g (fun k => ad (8 + k)) (σ 11 v1) σ v6 hw7) (cwV 1 hts gX1_hostNameOfKey_X3_nameOf rfl rfl rfl ⟨rfl, hd_X3_nameOf⟩ ⟨Nat.le_of_ble_eq_true rfl, Nat.le_of_ble_eq_true rfl⟩) ⟨rr_R_blind, va_recv hK.1 (hP.sub (ws' := rr_wS g (fun k => ad (8 + k)) σ) [8, 9, 10, 11] rfl) (ci := 3) (q0 := 0) rfl rfl, rr_R_pre hK (hP.sub (ws' := rr_wS g (fun k => ad (8 + k)) σ) [8, 9, 10, 11] rfl)⟩ rfl rfl hl.1 rfl (lv_room (Nat.le_of_ble_eq_true rfl)) dX1_hostNameOfKey_27 ⟨Nat.zero_le _, Nat.zero_le _⟩) ?_
    exact hret _ _ _ h dX1_hostNameOfKey_30
  · rw [if_neg c4] at h
    refine rr_iconst hx hb dX1_hostNameOfKey_13 ?_
    refine lv_goto (tgt := 30) hx hb dX1_hostNameOfKey_14 (by decide) ?_
    exact hret _ _ _ h dX1_hostNameOfKey_30
-- RoomRing$Ring.movedSince
abbrev rm_X1_movedSince : Room := { frames := 2, cells := 0, slots := 0, locals := 44 }
theorem hd_X1_movedSince : yX1_movedSince.cls ≠ "java/lang/invoke/MethodHandle" ∧ yX1_movedSince.cls ≠ "java/lang/invoke/VarHandle" ∧ (parseMethodDescriptor yX1_movedSince.desc).map (fun d => d.parameters.length) = some 1 := by decide +kernel
set_option maxHeartbeats 4000000 in
set_option maxRecDepth 100000 in
theorem kX1_movedSince (l : Launch) (g : rr_G) (ad : Nat → Nat) (bd : Nat → Nat) (σ : rr_T) (τ : rr_T) (out : Int) (h : M1_movedSince σ τ = some out) : Met l yX1_movedSince wsX1_movedSince rm_X1_movedSince (rr_R g [.ref (ad 0), .ref (bd 0)] (rr_wR g ad σ ++ rr_wR g bd τ)) (vp_Si (fun x => x = rr_i out)) 0 0 (fun _ => False) := by
  refine rr_roI (cc := cX1_movedSince) (maxL := 6) (by decide) rfl (Nat.le_of_ble_eq_true rfl) ?_
  intro p e s m ar below meth c Q ls hx hb hml hown hts hK hP hret hl
  have hown : s.vm.findClass RX1 = some m.cls := hown
  have hl : lv_has ls 6 [(0, .ref (ad 0)), (1, .ref (bd 0))] := hl
  have hinX1 : ∀ w ∈ u_ws RX1 TX1 8, w ∈ wsX1_movedSince := by decide +kernel
  have hinX3 : ∀ w ∈ u_ws RX3 TX3 7, w ∈ wsX1_movedSince := by decide +kernel
  have hk_0 : (Cond.fieldLink RX1 12 "RoomRing$Ring" "stock" "LRoomRing$Stock;").before ar s = true := hts _ (List.mem_of_getElem? (i := 1) (by decide +kernel))
  have hk_1 : (Cond.fieldLink RX1 49 "RoomRing$Stock" "keyCount" "I").before ar s = true := hts _ (List.mem_of_getElem? (i := 2) (by decide +kernel))
  have hk_2 : (Cond.fieldLink RX1 83 "RoomRing$Stock" "keys" "[I").before ar s = true := hts _ (List.mem_of_getElem? (i := 3) (by decide +kernel))
  have hk_3 : (Cond.fieldLink RX1 31 "RoomRing$Ring" "keyHosts" "[I").before ar s = true := hts _ (List.mem_of_getElem? (i := 4) (by decide +kernel))
  unfold M1_movedSince at h
  have hL1_movedSince_4 : ∀ (K : Int → Option Int) (n : Nat) (x2 : Int) (x3 : Int) (ls : Array Slot), L1_movedSince_4 σ τ K n x2 x3 = some out → lv_has ls 6 [(0, .ref (ad 0)), (1, .ref (bd 0)), (2, .int (rr_i x2)), (3, .int (rr_i x3))] → (∀ (z2 : Int) (ls : Array Slot), K z2 = some out → lv_has ls 6 [(2, .int (rr_i z2))] → W p l e rm_X1_movedSince s m ar below meth c s.heap [] 0 0 Q (F0 m 73 ls [])) → W p l e rm_X1_movedSince s m ar below meth c s.heap [] 0 0 Q (F0 m 4 ls []) := by
    intro K n
    induction n with
    | zero => intro x2 x3 ls h hl hk; cases h
    | succ n ih =>
      intro x2 x3 ls h hl hk
      rw [L1_movedSince_4_s] at h
      refine lv_iload_n hx hb dX1_movedSince_4 rfl (lv_at hl 3 rfl) ?_
      refine lv_aload_n hx hb dX1_movedSince_5 rfl (lv_at hl 1 rfl) ?_
      refine va_get (D := g.1) (ci := 1) (v := .ref (bd 8)) (C := RX1) (T := TX1) (N := 8) hx hb hts hinX1 hown hK.1 hP 12 rfl rfl 0 (by decide) hk_0 (fun _ h9 => h9) rfl dX1_movedSince_6 ?_
      refine va_get (D := g.1) (ci := 3) (v := .int (rr_i (τ 4 0))) (C := RX3) (T := TX3) (N := 7) hx hb hts hinX3 hown hK.1 hP 20 rfl rfl 4 (by decide) hk_1 (fun _ h9 => h9) rfl dX1_movedSince_9 ?_
      obtain ⟨hg1, h⟩ := rr_c_some h
      refine rr_icmp_ge (tgt := 73) hx hb dX1_movedSince_12 (by decide) hg1.1 hg1.2 (fun c2 => ?_) (fun c2 => ?_)
      · rw [if_pos c2] at h
        exact hk x2 ls h (lv_sub hl [2] rfl)
      · rw [if_neg c2] at h
        refine lv_aload_n hx hb dX1_movedSince_15 rfl (lv_at hl 1 rfl) ?_
        refine va_get (D := g.1) (ci := 1) (v := .ref (bd 8)) (C := RX1) (T := TX1) (N := 8) hx hb hts hinX1 hown hK.1 hP 12 rfl rfl 0 (by decide) hk_0 (fun _ h9 => h9) rfl dX1_movedSince_16 ?_
        refine va_get (D := g.1) (ci := 3) (v := .ref (bd 11)) (C := RX3) (T := TX3) (N := 7) hx hb hts hinX3 hown hK.1 hP 20 rfl rfl 2 (by decide) hk_2 (fun _ h9 => h9) rfl dX1_movedSince_19 ?_
        refine lv_iload_n hx hb dX1_movedSince_22 rfl (lv_at hl 3 rfl) ?_
        obtain ⟨hg3, h⟩ := rr_c_some h
        refine rr_iald (f := (τ 2)) (N := 40) hx hb hK hP 23 rfl rfl (by decide) hg3 dX1_movedSince_23 ?_
        refine lv_istore (lv' := [(4, .int (rr_i (τ 2 x3))), (0, .ref (ad 0)), (1, .ref (bd 0)), (2, .int (rr_i x2)), (3, .int (rr_i x3))]) hx hb dX1_movedSince_24 hl (by decide) rfl (fun ls hl => ?_)
        refine lv_aload_n hx hb dX1_movedSince_26 rfl (lv_at hl 2 rfl) ?_
        refine va_get (D := g.1) (ci := 1) (v := .ref (bd 8)) (C := RX1) (T := TX1) (N := 8) hx hb hts hinX1 hown hK.1 hP 12 rfl rfl 0 (by decide) hk_0 (fun _ h9 => h9) rfl dX1_movedSince_27 ?_
        refine lv_aload_n hx hb dX1_movedSince_30 rfl (lv_at hl 2 rfl) ?_
        refine va_get (D := g.1) (ci := 1) (v := .ref (bd 5)) (C := RX1) (T := TX1) (N := 8) hx hb hts hinX1 hown hK.1 hP 12 rfl rfl 5 (by decide) hk_3 (fun _ h9 => h9) rfl dX1_movedSince_31 ?_
        refine lv_iload_n hx hb dX1_movedSince_34 rfl (lv_at hl 4 rfl) ?_
        refine rr_iald (f := (τ 11)) (N := 40) hx hb hK hP 17 rfl rfl (by decide) hg3 dX1_movedSince_35 ?_
        obtain ⟨v4, hw5, h⟩ := rr_b_some h
        refine rr_callI (va_runV (As := [.int (rr_i (τ 11 x3))]) (rest := []) ⟨hx, hb, hml, hown, hts⟩ (kX3_nameOf l g (fun k => bd (8 + k)) (τ 11 x3) τ v4 hw5) (cwV 1 hts gX1_movedSince_X3_nameOf rfl rfl rfl ⟨rfl, hd_X3_nameOf⟩ ⟨Nat.le_of_ble_eq_true rfl, Nat.le_of_ble_eq_true rfl⟩) ⟨rr_R_blind, va_recv hK.1 (hP.sub (ws' := rr_wS g (fun k => bd (8 + k)) τ) [20, 21, 22, 23] rfl) (ci := 3) (q0 := 0) rfl rfl, rr_R_pre hK (hP.sub (ws' := rr_wS g (fun k => bd (8 + k)) τ) [20, 21, 22, 23] rfl)⟩ rfl rfl hl.1 rfl (lv_room (Nat.le_of_ble_eq_true rfl)) dX1_movedSince_36 ⟨Nat.zero_le _, Nat.zero_le _⟩) ?_
        refine lv_istore (lv' := [(5, .int (rr_i v4)), (4, .int (rr_i (τ 2 x3))), (0, .ref (ad 0)), (1, .ref (bd 0)), (2, .int (rr_i x2)), (3, .int (rr_i x3))]) hx hb dX1_movedSince_39 hl (by decide) rfl (fun ls hl => ?_)
        refine lv_aload_n hx hb dX1_movedSince_41 rfl (lv_at hl 2 rfl) ?_
        refine va_get (D := g.1) (ci := 1) (v := .ref (ad 8)) (C := RX1) (T := TX1) (N := 8) hx hb hts hinX1 hown hK.1 hP 0 rfl rfl 0 (by decide) hk_0 (fun _ h9 => h9) rfl dX1_movedSince_42 ?_
        refine lv_iload hx hb dX1_movedSince_45 (lv_at hl 1 rfl) ?_
        obtain ⟨v6, hw7, h⟩ := rr_b_some h
        refine rr_callI (va_runV (As := [.int (rr_i (τ 2 x3))]) (rest := []) ⟨hx, hb, hml, hown, hts⟩ (kX3_findKey l g (fun k => ad (8 + k)) (τ 2 x3) σ v6 hw7) (cwV 1 hts gX1_movedSince_X3_findKey rfl rfl rfl ⟨rfl, hd_X3_findKey⟩ ⟨Nat.le_of_ble_eq_true rfl, Nat.le_of_ble_eq_true rfl⟩) ⟨rr_R_blind, va_recv hK.1 (hP.sub (ws' := rr_wS g (fun k => ad (8 + k)) σ) [8, 9, 10, 11] rfl) (ci := 3) (q0 := 0) rfl rfl, rr_R_pre hK (hP.sub (ws' := rr_wS g (fun k => ad (8 + k)) σ) [8, 9, 10, 11] rfl)⟩ rfl rfl hl.1 rfl (lv_room (Nat.le_of_ble_eq_true rfl)) dX1_movedSince_47 ⟨Nat.zero_le _, Nat.zero_le _⟩) ?_
        obtain ⟨hg8, h⟩ := rr_c_some h
        refine rr_if_lt (tgt := 67) hx hb dX1_movedSince_50 (by decide) hg8 (fun c9 => ?_) (fun c9 => ?_)
        · rw [if_pos c9] at h
          refine rr_iinc (k := 5) (a := x3) (lv' := [(3, .int (rr_i (x3 + 1))), (5, .int (rr_i v4)), (4, .int (rr_i (τ 2 x3))), (0, .ref (ad 0)), (1, .ref (bd 0)), (2, .int (rr_i x2))]) hx hb dX1_movedSince_67 hl rfl (by decide) rfl (fun ls hl => ?_)
          refine lv_goto (tgt := 4) hx hb dX1_movedSince_70 (by decide) ?_
          exact ih x2 (x3 + 1) ls h (lv_sub hl [3, 4, 5, 0] rfl) hk
        · rw [if_neg c9] at h
          refine lv_aload_n hx hb dX1_movedSince_53 rfl (lv_at hl 2 rfl) ?_
          refine lv_iload hx hb dX1_movedSince_54 (lv_at hl 1 rfl) ?_
          obtain ⟨v10, hw11, h⟩ := rr_b_some h
          refine rr_callI (va_runV (As := [.int (rr_i (τ 2 x3))]) (rest := []) ⟨hx, hb, hml, hown, hts⟩ (kX1_hostNameOfKey l g ad (τ 2 x3) σ v10 hw11) (cwV 1 hts gX1_movedSince_X1_hostNameOfKey rfl rfl rfl ⟨rfl, hd_X1_hostNameOfKey⟩ ⟨Nat.le_of_ble_eq_true rfl, Nat.le_of_ble_eq_true rfl⟩) ⟨rr_R_blind, va_recv hK.1 (hP.sub (ws' := rr_wR g ad σ) [0, 1, 2, 3, 4, 5, 6, 7, 8, 9, 10, 11] rfl) (ci := 1) (q0 := 0) rfl rfl, rr_R_pre hK (hP.sub (ws' := rr_wR g ad σ) [0, 1, 2, 3, 4, 5, 6, 7, 8, 9, 10, 11] rfl)⟩ rfl rfl hl.1 rfl (lv_room (Nat.le_of_ble_eq_true rfl)) dX1_movedSince_56 ⟨Nat.zero_le _, Nat.zero_le _⟩) ?_
          refine lv_iload hx hb dX1_movedSince_59 (lv_at hl 0 rfl) ?_
          obtain ⟨hg12, h⟩ := rr_c_some h
          refine rr_icmp_eq (tgt := 67) hx hb dX1_movedSince_61 (by decide) hg12.1 hg12.2 (fun c13 => ?_) (fun c13 => ?_)
          · rw [if_pos c13] at h
            refine rr_iinc (k := 5) (a := x3) (lv' := [(3, .int (rr_i (x3 + 1))), (5, .int (rr_i v4)), (4, .int (rr_i (τ 2 x3))), (0, .ref (ad 0)), (1, .ref (bd 0)), (2, .int (rr_i x2))]) hx hb dX1_movedSince_67 hl rfl (by decide) rfl (fun ls hl => ?_)
            refine lv_goto (tgt := 4) hx hb dX1_movedSince_70 (by decide) ?_
            exact ih x2 (x3 + 1) ls h (lv_sub hl [3, 4, 5, 0] rfl) hk
          · rw [if_neg c13] at h
            refine rr_iinc (k := 4) (a := x2) (lv' := [(2, .int (rr_i (x2 + 1))), (5, .int (rr_i v4)), (4, .int (rr_i (τ 2 x3))), (0, .ref (ad 0)), (1, .ref (bd 0)), (3, .int (rr_i x3))]) hx hb dX1_movedSince_64 hl rfl (by decide) rfl (fun ls hl => ?_)
            refine rr_iinc (k := 5) (a := x3) (lv' := [(3, .int (rr_i (x3 + 1))), (2, .int (rr_i (x2 + 1))), (5, .int (rr_i v4)), (4, .int (rr_i (τ 2 x3))), (0, .ref (ad 0)), (1, .ref (bd 0))]) hx hb dX1_movedSince_67 hl rfl (by decide) rfl (fun ls hl => ?_)
            refine lv_goto (tgt := 4) hx hb dX1_movedSince_70 (by decide) ?_
            exact ih (x2 + 1) (x3 + 1) ls h (lv_sub hl [4, 5, 1, 0] rfl) hk
  refine rr_iconst hx hb dX1_movedSince_0 ?_
  refine lv_istore_n (lv' := [(2, .int (rr_i 0)), (0, .ref (ad 0)), (1, .ref (bd 0))]) hx hb dX1_movedSince_1 rfl hl (by decide) rfl (fun ls hl => ?_)
  refine rr_iconst hx hb dX1_movedSince_2 ?_
  refine lv_istore_n (lv' := [(3, .int (rr_i 0)), (2, .int (rr_i 0)), (0, .ref (ad 0)), (1, .ref (bd 0))]) hx hb dX1_movedSince_3 rfl hl (by decide) rfl (fun ls hl => ?_)
  refine hL1_movedSince_4 _ 1000 0 0 ls h (lv_sub hl [2, 3, 1, 0] rfl) (fun y2_4 ls h hl => ?_)
  refine lv_iload_n hx hb dX1_movedSince_73 rfl (lv_at hl 0 rfl) ?_
  exact hret _ _ _ h dX1_movedSince_74
-- RoomRing$Ring.keyOfHost
abbrev rm_X1_keyOfHost : Room := { frames := 0, cells := 0, slots := 0, locals := 0 }
theorem hd_X1_keyOfHost : yX1_keyOfHost.cls ≠ "java/lang/invoke/MethodHandle" ∧ yX1_keyOfHost.cls ≠ "java/lang/invoke/VarHandle" ∧ (parseMethodDescriptor yX1_keyOfHost.desc).map (fun d => d.parameters.length) = some 2 := by decide +kernel
set_option maxHeartbeats 4000000 in
set_option maxRecDepth 100000 in
theorem kX1_keyOfHost (l : Launch) (g : rr_G) (ad : Nat → Nat) (x1 : Int) (x2 : Int) (σ : rr_T) (out : Int) (h : M1_keyOfHost x1 x2 σ = some out) : Met l yX1_keyOfHost wsX1_keyOfHost rm_X1_keyOfHost (rr_R g [.ref (ad 0), .int (rr_i x1), .int (rr_i x2)] (rr_wR g ad σ)) (vp_Si (fun x => x = rr_i out)) 0 0 (fun _ => False) := by
  refine rr_roI (cc := cX1_keyOfHost) (maxL := 5) (by decide) rfl (Nat.le_of_ble_eq_true rfl) ?_
  intro p e s m ar below meth c Q ls hx hb hml hown hts hK hP hret hl
  have hown : s.vm.findClass RX1 = some m.cls := hown
  have hl : lv_has ls 5 [(0, .ref (ad 0)), (1, .int (rr_i x1)), (2, .int (rr_i x2))] := hl
  have hinX1 : ∀ w ∈ u_ws RX1 TX1 8, w ∈ wsX1_keyOfHost := by decide +kernel
  have hinX3 : ∀ w ∈ u_ws RX3 TX3 7, w ∈ wsX1_keyOfHost := by decide +kernel
  have hk_0 : (Cond.fieldLink RX1 12 "RoomRing$Ring" "stock" "LRoomRing$Stock;").before ar s = true := hts _ (List.mem_of_getElem? (i := 1) (by decide +kernel))
  have hk_1 : (Cond.fieldLink RX1 49 "RoomRing$Stock" "keyCount" "I").before ar s = true := hts _ (List.mem_of_getElem? (i := 2) (by decide +kernel))
  have hk_2 : (Cond.fieldLink RX1 31 "RoomRing$Ring" "keyHosts" "[I").before ar s = true := hts _ (List.mem_of_getElem? (i := 3) (by decide +kernel))
  have hk_3 : (Cond.fieldLink RX1 83 "RoomRing$Stock" "keys" "[I").before ar s = true := hts _ (List.mem_of_getElem? (i := 4) (by decide +kernel))
  unfold M1_keyOfHost at h
  have hL1_keyOfHost_5 : ∀ (x1 : Int) (x2 : Int) (K : Option Int) (n : Nat) (x3 : Int) (x4 : Int) (ls : Array Slot), L1_keyOfHost_5 σ x1 x2 K n x3 x4 = some out → lv_has ls 5 [(0, .ref (ad 0)), (1, .int (rr_i x1)), (2, .int (rr_i x2)), (3, .int (rr_i x3)), (4, .int (rr_i x4))] → (∀ (ls : Array Slot), K = some out → lv_has ls 5 [] → W p l e rm_X1_keyOfHost s m ar below meth c s.heap [] 0 0 Q (F0 m 53 ls [])) → W p l e rm_X1_keyOfHost s m ar below meth c s.heap [] 0 0 Q (F0 m 5 ls []) := by
    intro x1 x2 K n
    induction n with
    | zero => intro x3 x4 ls h hl hk; cases h
    | succ n ih =>
      intro x3 x4 ls h hl hk
      rw [L1_keyOfHost_5_s] at h
      refine lv_iload hx hb dX1_keyOfHost_5 (lv_at hl 4 rfl) ?_
      refine lv_aload_n hx hb dX1_keyOfHost_7 rfl (lv_at hl 0 rfl) ?_
      refine va_get (D := g.1) (ci := 1) (v := .ref (ad 8)) (C := RX1) (T := TX1) (N := 8) hx hb hts hinX1 hown hK.1 hP 0 rfl rfl 0 (by decide) hk_0 (fun _ h9 => h9) rfl dX1_keyOfHost_8 ?_
      refine va_get (D := g.1) (ci := 3) (v := .int (rr_i (σ 4 0))) (C := RX3) (T := TX3) (N := 7) hx hb hts hinX3 hown hK.1 hP 8 rfl rfl 4 (by decide) hk_1 (fun _ h9 => h9) rfl dX1_keyOfHost_11 ?_
      obtain ⟨hg1, h⟩ := rr_c_some h
      refine rr_icmp_ge (tgt := 53) hx hb dX1_keyOfHost_14 (by decide) hg1.1 hg1.2 (fun c2 => ?_) (fun c2 => ?_)
      · rw [if_pos c2] at h
        exact hk ls h (lv_sub hl [] rfl)
      · rw [if_neg c2] at h
        refine lv_aload_n hx hb dX1_keyOfHost_17 rfl (lv_at hl 0 rfl) ?_
        refine va_get (D := g.1) (ci := 1) (v := .ref (ad 5)) (C := RX1) (T := TX1) (N := 8) hx hb hts hinX1 hown hK.1 hP 0 rfl rfl 5 (by decide) hk_2 (fun _ h9 => h9) rfl dX1_keyOfHost_18 ?_
        refine lv_iload hx hb dX1_keyOfHost_21 (lv_at hl 4 rfl) ?_
        obtain ⟨hg3, h⟩ := rr_c_some h
        refine rr_iald (f := (σ 11)) (N := 40) hx hb hK hP 5 rfl rfl (by decide) hg3 dX1_keyOfHost_23 ?_
        refine lv_iload_n hx hb dX1_keyOfHost_24 rfl (lv_at hl 1 rfl) ?_
        obtain ⟨hg4, h⟩ := rr_c_some h
        refine rr_icmp_ne (tgt := 47) hx hb dX1_keyOfHost_25 (by decide) hg4.1 hg4.2 (fun c5 => ?_) (fun c5 => ?_)
        · rw [if_neg c5] at h
          refine rr_iinc (k := 4) (a := x4) (lv' := [(4, .int (rr_i (x4 + 1))), (0, .ref (ad 0)), (1, .int (rr_i x1)), (2, .int (rr_i x2)), (3, .int (rr_i x3))]) hx hb dX1_keyOfHost_47 hl rfl (by decide) rfl (fun ls hl => ?_)
          refine lv_goto (tgt := 5) hx hb dX1_keyOfHost_50 (by decide) ?_
          exact ih x3 (x4 + 1) ls h (lv_sub hl [1, 2, 3, 4, 0] rfl) hk
        · rw [if_pos c5] at h
          refine lv_iload_n hx hb dX1_keyOfHost_28 rfl (lv_at hl 3 rfl) ?_
          refine lv_iload_n hx hb dX1_keyOfHost_29 rfl (lv_at hl 2 rfl) ?_
          obtain ⟨hg6, h⟩ := rr_c_some h
          refine rr_icmp_ne (tgt := 44) hx hb dX1_keyOfHost_30 (by decide) hg6.1 hg6.2 (fun c7 => ?_) (fun c7 => ?_)
          · rw [if_neg c7] at h
            refine rr_iinc (k := 3) (a := x3) (lv' := [(3, .int (rr_i (x3 + 1))), (0, .ref (ad 0)), (1, .int (rr_i x1)), (2, .int (rr_i x2)), (4, .int (rr_i x4))]) hx hb dX1_keyOfHost_44 hl rfl (by decide) rfl (fun ls hl => ?_)
            refine rr_iinc (k := 4) (a := x4) (lv' := [(4, .int (rr_i (x4 + 1))), (3, .int (rr_i (x3 + 1))), (0, .ref (ad 0)), (1, .int (rr_i x1)), (2, .int (rr_i x2))]) hx hb dX1_keyOfHost_47 hl rfl (by decide) rfl (fun ls hl => ?_)
            refine lv_goto (tgt := 5) hx hb dX1_keyOfHost_50 (by decide) ?_
            exact ih (x3 + 1) (x4 + 1) ls h (lv_sub hl [2, 3, 4, 1, 0] rfl) hk
          · rw [if_pos c7] at h
            refine lv_aload_n hx hb dX1_keyOfHost_33 rfl (lv_at hl 0 rfl) ?_
            refine va_get (D := g.1) (ci := 1) (v := .ref (ad 8)) (C := RX1) (T := TX1) (N := 8) hx hb hts hinX1 hown hK.1 hP 0 rfl rfl 0 (by decide) hk_0 (fun _ h9 => h9) rfl dX1_keyOfHost_34 ?_
            refine va_get (D := g.1) (ci := 3) (v := .ref (ad 11)) (C := RX3) (T := TX3) (N := 7) hx hb hts hinX3 hown hK.1 hP 8 rfl rfl 2 (by decide) hk_3 (fun _ h9 => h9) rfl dX1_keyOfHost_37 ?_
            refine lv_iload hx hb dX1_keyOfHost_40 (lv_at hl 4 rfl) ?_
            refine rr_iald (f := (σ 2)) (N := 40) hx hb hK hP 11 rfl rfl (by decide) hg3 dX1_keyOfHost_42 ?_
            exact hret _ _ _ h dX1_keyOfHost_43
  refine rr_iconst hx hb dX1_keyOfHost_0 ?_
  refine lv_istore_n (lv' := [(3, .int (rr_i 0)), (0, .ref (ad 0)), (1, .int (rr_i x1)), (2, .int (rr_i x2))]) hx hb dX1_keyOfHost_1 rfl hl (by decide) rfl (fun ls hl => ?_)
  refine rr_iconst hx hb dX1_keyOfHost_2 ?_
  refine lv_istore (lv' := [(4, .int (rr_i 0)), (3, .int (rr_i 0)), (0, .ref (ad 0)), (1, .int (rr_i x1)), (2, .int (rr_i x2))]) hx hb dX1_keyOfHost_3 hl (by decide) rfl (fun ls hl => ?_)
  refine hL1_keyOfHost_5 x1 x2 _ 1000 0 0 ls h (lv_sub hl [2, 3, 4, 1, 0] rfl) (fun ls h hl => ?_)
  refine rr_iconst hx hb dX1_keyOfHost_53 ?_
  exact hret _ _ _ h dX1_keyOfHost_54
-- RoomRing$Ring.hostFact
abbrev rm_X1_hostFact : Room := { frames := 1, cells := 0, slots := 0, locals := 24 }
theorem hd_X1_hostFact : yX1_hostFact.cls ≠ "java/lang/invoke/MethodHandle" ∧ yX1_hostFact.cls ≠ "java/lang/invoke/VarHandle" ∧ (parseMethodDescriptor yX1_hostFact.desc).map (fun d => d.parameters.length) = some 2 := by decide +kernel
set_option maxHeartbeats 4000000 in
set_option maxRecDepth 100000 in
theorem kX1_hostFact (l : Launch) (g : rr_G) (ad : Nat → Nat) (x1 : Int) (x2 : Int) (σ : rr_T) (out : Int) (h : M1_hostFact x1 x2 σ = some out) : Met l yX1_hostFact wsX1_hostFact rm_X1_hostFact (rr_R g [.ref (ad 0), .int (rr_i x1), .int (rr_i x2)] (rr_wR g ad σ)) (vp_Si (fun x => x = rr_i out)) 0 0 (fun _ => False) := by
  refine rr_roI (cc := cX1_hostFact) (maxL := 3) (by decide) rfl (Nat.le_of_ble_eq_true rfl) ?_
  intro p e s m ar below meth c Q ls hx hb hml hown hts hK hP hret hl
  have hown : s.vm.findClass RX1 = some m.cls := hown
  have hl : lv_has ls 3 [(0, .ref (ad 0)), (1, .int (rr_i x1)), (2, .int (rr_i x2))] := hl
  have hinX1 : ∀ w ∈ u_ws RX1 TX1 8, w ∈ wsX1_hostFact := by decide +kernel
  have hinX3 : ∀ w ∈ u_ws RX3 TX3 7, w ∈ wsX1_hostFact := by decide +kernel
  have hk_0 : (Cond.fieldLink RX1 12 "RoomRing$Ring" "stock" "LRoomRing$Stock;").before ar s = true := hts _ (List.mem_of_getElem? (i := 1) (by decide +kernel))
  have hk_1 : (Cond.fieldLink RX1 60 "RoomRing$Stock" "weights" "[I").before ar s = true := hts _ (List.mem_of_getElem? (i := 2) (by decide +kernel))
  have hk_2 : (Cond.fieldLink RX1 25 "RoomRing$Ring" "bounds" "[I").before ar s = true := hts _ (List.mem_of_getElem? (i := 3) (by decide +kernel))
  have hk_3 : (Cond.fieldLink RX1 28 "RoomRing$Ring" "loads" "[I").before ar s = true := hts _ (List.mem_of_getElem? (i := 4) (by decide +kernel))
  unfold M1_hostFact at h
  refine lv_iload_n hx hb dX1_hostFact_0 rfl (lv_at hl 2 rfl) ?_
  obtain ⟨hg1, h⟩ := rr_c_some h
  have hv2 : (rr_i x2).toInt = x2 := rr_to_i hg1
  by_cases c3 : x2 = 0
  · rw [if_pos c3] at h
    refine lv_tableIn (off := 27) (tgt := 28) hx hb dX1_hostFact_1 (by rw [hv2, c3]; decide) (by rw [hv2, c3]; decide) (by rw [hv2, c3]; rfl) (by decide) ?_
    refine lv_aload_n hx hb dX1_hostFact_28 rfl (lv_at hl 0 rfl) ?_
    refine va_get (D := g.1) (ci := 1) (v := .ref (ad 8)) (C := RX1) (T := TX1) (N := 8) hx hb hts hinX1 hown hK.1 hP 0 rfl rfl 0 (by decide) hk_0 (fun _ h9 => h9) rfl dX1_hostFact_29 ?_
    refine va_get (D := g.1) (ci := 3) (v := .ref (ad 10)) (C := RX3) (T := TX3) (N := 7) hx hb hts hinX3 hown hK.1 hP 8 rfl rfl 1 (by decide) hk_1 (fun _ h9 => h9) rfl dX1_hostFact_32 ?_
    refine lv_iload_n hx hb dX1_hostFact_35 rfl (lv_at hl 1 rfl) ?_
    obtain ⟨hg4, h⟩ := rr_c_some h
    refine rr_iald (f := (σ 1)) (N := 6) hx hb hK hP 10 rfl rfl (by decide) hg4 dX1_hostFact_36 ?_
    exact hret _ _ _ h dX1_hostFact_37
  · rw [if_neg c3] at h
    by_cases c5 : x2 = 1
    · rw [if_pos c5] at h
      refine lv_tableIn (off := 37) (tgt := 38) hx hb dX1_hostFact_1 (by rw [hv2, c5]; decide) (by rw [hv2, c5]; decide) (by rw [hv2, c5]; rfl) (by decide) ?_
      refine lv_aload_n hx hb dX1_hostFact_38 rfl (lv_at hl 0 rfl) ?_
      refine va_get (D := g.1) (ci := 1) (v := .ref (ad 3)) (C := RX1) (T := TX1) (N := 8) hx hb hts hinX1 hown hK.1 hP 0 rfl rfl 3 (by decide) hk_2 (fun _ h9 => h9) rfl dX1_hostFact_39 ?_
      refine lv_iload_n hx hb dX1_hostFact_42 rfl (lv_at hl 1 rfl) ?_
      obtain ⟨hg6, h⟩ := rr_c_some h
      refine rr_iald (f := (σ 9)) (N := 6) hx hb hK hP 3 rfl rfl (by decide) hg6 dX1_hostFact_43 ?_
      exact hret _ _ _ h dX1_hostFact_44
    · rw [if_neg c5] at h
      by_cases c7 : x2 = 2
      · rw [if_pos c7] at h
        refine lv_tableIn (off := 44) (tgt := 45) hx hb dX1_hostFact_1 (by rw [hv2, c7]; decide) (by rw [hv2, c7]; decide) (by rw [hv2, c7]; rfl) (by decide) ?_
        refine lv_aload_n hx hb dX1_hostFact_45 rfl (lv_at hl 0 rfl) ?_
        refine va_get (D := g.1) (ci := 1) (v := .ref (ad 4)) (C := RX1) (T := TX1) (N := 8) hx hb hts hinX1 hown hK.1 hP 0 rfl rfl 4 (by decide) hk_3 (fun _ h9 => h9) rfl dX1_hostFact_46 ?_
        refine lv_iload_n hx hb dX1_hostFact_49 rfl (lv_at hl 1 rfl) ?_
        obtain ⟨hg8, h⟩ := rr_c_some h
        refine rr_iald (f := (σ 10)) (N := 6) hx hb hK hP 4 rfl rfl (by decide) hg8 dX1_hostFact_50 ?_
        exact hret _ _ _ h dX1_hostFact_51
      · rw [if_neg c7] at h
        by_cases hr11 : x2 < 0 ∨ 2 < x2
        · refine lv_tableOut (tgt := 52) hx hb dX1_hostFact_1 (by rw [hv2]; exact hr11) (by decide) ?_
          refine lv_aload_n hx hb dX1_hostFact_52 rfl (lv_at hl 0 rfl) ?_
          refine lv_iload_n hx hb dX1_hostFact_53 rfl (lv_at hl 1 rfl) ?_
          refine lv_iload_n hx hb dX1_hostFact_54 rfl (lv_at hl 2 rfl) ?_
          refine rr_iconst hx hb dX1_hostFact_55 ?_
          refine rr_isub hx hb dX1_hostFact_56 ?_
          obtain ⟨v9, hw10, h⟩ := rr_b_some h
          refine rr_callI (va_runV (As := [.int (rr_i x1), .int (rr_i (x2 - 3))]) (rest := []) ⟨hx, hb, hml, hown, hts⟩ (kX1_keyOfHost l g ad x1 (x2 - 3) σ v9 hw10) (cwV 2 hts gX1_hostFact_X1_keyOfHost rfl rfl rfl ⟨rfl, hd_X1_keyOfHost⟩ ⟨Nat.le_of_ble_eq_true rfl, Nat.le_of_ble_eq_true rfl⟩) ⟨rr_R_blind, va_recv hK.1 hP (ci := 1) (q0 := 0) rfl rfl, rr_R_pre hK hP⟩ rfl rfl hl.1 rfl (lv_room (Nat.le_of_ble_eq_true rfl)) dX1_hostFact_57 ⟨Nat.zero_le _, Nat.zero_le _⟩) ?_
          exact hret _ _ _ h dX1_hostFact_60
        · exact absurd (show x2 < 0 ∨ 2 < x2 by omega) hr11
-- RoomRing$Ring.placeOfMark
abbrev rm_X1_placeOfMark : Room := { frames := 0, cells := 0, slots := 0, locals := 0 }
theorem hd_X1_placeOfMark : yX1_placeOfMark.cls ≠ "java/lang/invoke/MethodHandle" ∧ yX1_placeOfMark.cls ≠ "java/lang/invoke/VarHandle" ∧ (parseMethodDescriptor yX1_placeOfMark.desc).map (fun d => d.parameters.length) = some 2 := by decide +kernel
set_option maxHeartbeats 4000000 in
set_option maxRecDepth 100000 in
theorem kX1_placeOfMark (l : Launch) (g : rr_G) (ad : Nat → Nat) (x1 : Int) (x2 : Int) (σ : rr_T) (out : Int) (h : M1_placeOfMark x1 x2 σ = some out) : Met l yX1_placeOfMark wsX1_placeOfMark rm_X1_placeOfMark (rr_R g [.ref (ad 0), .int (rr_i x1), .int (rr_i x2)] (rr_wR g ad σ)) (vp_Si (fun x => x = rr_i out)) 0 0 (fun _ => False) := by
  refine rr_roI (cc := cX1_placeOfMark) (maxL := 3) (by decide) rfl (Nat.le_of_ble_eq_true rfl) ?_
  intro p e s m ar below meth c Q ls hx hb hml hown hts hK hP hret hl
  have hown : s.vm.findClass RX1 = some m.cls := hown
  have hl : lv_has ls 3 [(0, .ref (ad 0)), (1, .int (rr_i x1)), (2, .int (rr_i x2))] := hl
  have hinX1 : ∀ w ∈ u_ws RX1 TX1 8, w ∈ wsX1_placeOfMark := by decide +kernel
  have hinX3 : ∀ w ∈ u_ws RX3 TX3 7, w ∈ wsX1_placeOfMark := by decide +kernel
  have hk_0 : (Cond.fieldLink RX1 12 "RoomRing$Ring" "stock" "LRoomRing$Stock;").before ar s = true := hts _ (List.mem_of_getElem? (i := 1) (by decide +kernel))
  have hk_1 : (Cond.fieldLink RX1 60 "RoomRing$Stock" "weights" "[I").before ar s = true := hts _ (List.mem_of_getElem? (i := 2) (by decide +kernel))
  have hk_2 : (Cond.fieldLink RX1 22 "RoomRing$Ring" "markPlaces" "[I").before ar s = true := hts _ (List.mem_of_getElem? (i := 3) (by decide +kernel))
  unfold M1_placeOfMark at h
  refine lv_iload_n hx hb dX1_placeOfMark_0 rfl (lv_at hl 2 rfl) ?_
  refine rr_iconst hx hb dX1_placeOfMark_1 ?_
  refine lv_aload_n hx hb dX1_placeOfMark_2 rfl (lv_at hl 0 rfl) ?_
  refine va_get (D := g.1) (ci := 1) (v := .ref (ad 8)) (C := RX1) (T := TX1) (N := 8) hx hb hts hinX1 hown hK.1 hP 0 rfl rfl 0 (by decide) hk_0 (fun _ h9 => h9) rfl dX1_placeOfMark_3 ?_
  refine va_get (D := g.1) (ci := 3) (v := .ref (ad 10)) (C := RX3) (T := TX3) (N := 7) hx hb hts hinX3 hown hK.1 hP 8 rfl rfl 1 (by decide) hk_1 (fun _ h9 => h9) rfl dX1_placeOfMark_6 ?_
  refine lv_iload_n hx hb dX1_placeOfMark_9 rfl (lv_at hl 1 rfl) ?_
  obtain ⟨hg1, h⟩ := rr_c_some h
  refine rr_iald (f := (σ 1)) (N := 6) hx hb hK hP 10 rfl rfl (by decide) hg1 dX1_placeOfMark_10 ?_
  refine rr_imul hx hb dX1_placeOfMark_11 ?_
  obtain ⟨hg2, h⟩ := rr_c_some h
  refine rr_icmp_ge (tgt := 29) hx hb dX1_placeOfMark_12 (by decide) hg2.1 hg2.2 (fun c3 => ?_) (fun c3 => ?_)
  · rw [if_pos c3] at h
    refine rr_iconst hx hb dX1_placeOfMark_29 ?_
    exact hret _ _ _ h dX1_placeOfMark_30
  · rw [if_neg c3] at h
    refine lv_aload_n hx hb dX1_placeOfMark_15 rfl (lv_at hl 0 rfl) ?_
    refine va_get (D := g.1) (ci := 1) (v := .ref (ad 2)) (C := RX1) (T := TX1) (N := 8) hx hb hts hinX1 hown hK.1 hP 0 rfl rfl 2 (by decide) hk_2 (fun _ h9 => h9) rfl dX1_placeOfMark_16 ?_
    refine lv_iload_n hx hb dX1_placeOfMark_19 rfl (lv_at hl 1 rfl) ?_
    refine rr_bipush hx hb dX1_placeOfMark_20 (by decide +kernel) ?_
    refine rr_imul hx hb dX1_placeOfMark_22 ?_
    refine lv_iload_n hx hb dX1_placeOfMark_23 rfl (lv_at hl 2 rfl) ?_
    refine rr_iadd hx hb dX1_placeOfMark_24 ?_
    obtain ⟨hg4, h⟩ := rr_c_some h
    refine rr_iald (f := (σ 8)) (N := 48) hx hb hK hP 2 rfl rfl (by decide) hg4 dX1_placeOfMark_25 ?_
    refine lv_goto (tgt := 30) hx hb dX1_placeOfMark_26 (by decide) ?_
    exact hret _ _ _ h dX1_placeOfMark_30
-- RoomRing$Ring.firstOwner
abbrev rm_X1_firstOwner : Room := { frames := 0, cells := 0, slots := 0, locals := 0 }
theorem hd_X1_firstOwner : yX1_firstOwner.cls ≠ "java/lang/invoke/MethodHandle" ∧ yX1_firstOwner.cls ≠ "java/lang/invoke/VarHandle" ∧ (parseMethodDescriptor yX1_firstOwner.desc).map (fun d => d.parameters.length) = some 0 := by decide +kernel
set_option maxHeartbeats 4000000 in
set_option maxRecDepth 100000 in
theorem kX1_firstOwner (l : Launch) (g : rr_G) (ad : Nat → Nat) (σ : rr_T) (out : Int) (h : M1_firstOwner σ = some out) : Met l yX1_firstOwner wsX1_firstOwner rm_X1_firstOwner (rr_R g [.ref (ad 0)] (rr_wR g ad σ)) (vp_Si (fun x => x = rr_i out)) 0 0 (fun _ => False) := by
  refine rr_roI (cc := cX1_firstOwner) (maxL := 2) (by decide) rfl (Nat.le_of_ble_eq_true rfl) ?_
  intro p e s m ar below meth c Q ls hx hb hml hown hts hK hP hret hl
  have hown : s.vm.findClass RX1 = some m.cls := hown
  have hl : lv_has ls 2 [(0, .ref (ad 0))] := hl
  have hinX1 : ∀ w ∈ u_ws RX1 TX1 8, w ∈ wsX1_firstOwner := by decide +kernel
  have hk_0 : (Cond.fieldLink RX1 18 "RoomRing$Ring" "owners" "[I").before ar s = true := hts _ (List.mem_of_getElem? (i := 1) (by decide +kernel))
  unfold M1_firstOwner at h
  have hL1_firstOwner_2 : ∀ (K : Option Int) (n : Nat) (x1 : Int) (ls : Array Slot), L1_firstOwner_2 σ K n x1 = some out → lv_has ls 2 [(0, .ref (ad 0)), (1, .int (rr_i x1))] → (∀ (ls : Array Slot), K = some out → lv_has ls 2 [] → W p l e rm_X1_firstOwner s m ar below meth c s.heap [] 0 0 Q (F0 m 31 ls [])) → W p l e rm_X1_firstOwner s m ar below meth c s.heap [] 0 0 Q (F0 m 2 ls []) := by
    intro K n
    induction n with
    | zero => intro x1 ls h hl hk; cases h
    | succ n ih =>
      intro x1 ls h hl hk
      rw [L1_firstOwner_2_s] at h
      refine lv_iload_n hx hb dX1_firstOwner_2 rfl (lv_at hl 1 rfl) ?_
      refine rr_bipush hx hb dX1_firstOwner_3 (by decide +kernel) ?_
      obtain ⟨hg1, h⟩ := rr_c_some h
      refine rr_icmp_ge (tgt := 31) hx hb dX1_firstOwner_5 (by decide) hg1 (by decide) (fun c2 => ?_) (fun c2 => ?_)
      · rw [if_pos c2] at h
        exact hk ls h (lv_sub hl [] rfl)
      · rw [if_neg c2] at h
        refine lv_aload_n hx hb dX1_firstOwner_8 rfl (lv_at hl 0 rfl) ?_
        refine va_get (D := g.1) (ci := 1) (v := .ref (ad 1)) (C := RX1) (T := TX1) (N := 8) hx hb hts hinX1 hown hK.1 hP 0 rfl rfl 1 (by decide) hk_0 (fun _ h9 => h9) rfl dX1_firstOwner_9 ?_
        refine lv_iload_n hx hb dX1_firstOwner_12 rfl (lv_at hl 1 rfl) ?_
        obtain ⟨hg3, h⟩ := rr_c_some h
        refine rr_iald (f := (σ 7)) (N := 101) hx hb hK hP 1 rfl rfl (by decide) hg3 dX1_firstOwner_13 ?_
        refine rr_iconst hx hb dX1_firstOwner_14 ?_
        obtain ⟨hg4, h⟩ := rr_c_some h
        refine rr_icmp_eq (tgt := 25) hx hb dX1_firstOwner_15 (by decide) hg4 (by decide) (fun c5 => ?_) (fun c5 => ?_)
        · rw [if_pos c5] at h
          refine rr_iinc (k := 1) (a := x1) (lv' := [(1, .int (rr_i (x1 + 1))), (0, .ref (ad 0))]) hx hb dX1_firstOwner_25 hl rfl (by decide) rfl (fun ls hl => ?_)
          refine lv_goto (tgt := 2) hx hb dX1_firstOwner_28 (by decide) ?_
          exact ih (x1 + 1) ls h (lv_sub hl [1, 0] rfl) hk
        · rw [if_neg c5] at h
          refine lv_aload_n hx hb dX1_firstOwner_18 rfl (lv_at hl 0 rfl) ?_
          refine va_get (D := g.1) (ci := 1) (v := .ref (ad 1)) (C := RX1) (T := TX1) (N := 8) hx hb hts hinX1 hown hK.1 hP 0 rfl rfl 1 (by decide) hk_0 (fun _ h9 => h9) rfl dX1_firstOwner_19 ?_
          refine lv_iload_n hx hb dX1_firstOwner_22 rfl (lv_at hl 1 rfl) ?_
          refine rr_iald (f := (σ 7)) (N := 101) hx hb hK hP 1 rfl rfl (by decide) hg3 dX1_firstOwner_23 ?_
          exact hret _ _ _ h dX1_firstOwner_24
  refine rr_iconst hx hb dX1_firstOwner_0 ?_
  refine lv_istore_n (lv' := [(1, .int (rr_i 0)), (0, .ref (ad 0))]) hx hb dX1_firstOwner_1 rfl hl (by decide) rfl (fun ls hl => ?_)
  refine hL1_firstOwner_2 _ 1000 0 ls h (lv_sub hl [1, 0] rfl) (fun ls h hl => ?_)
  refine rr_iconst hx hb dX1_firstOwner_31 ?_
  exact hret _ _ _ h dX1_firstOwner_32
